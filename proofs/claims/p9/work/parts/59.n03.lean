/-! contracts, printed by wip/gen/gy.py -/
section MYNReader_readPane9_f0
theorem c_Reader_readPane9_f0 {l : Launch} {rho : Nat → Int32} {d : Nat} {h : my_H} {Q : my_H → my_V → Prop} {wv : Int} (cf : h 82 9 = 0) (hwv : wv ≤ 5) (hwv0 : 0 ≤ wv) (n_Ln : Ln h) (n_Sp : Sp h wv) (n_Al : Al h) (n_Cu : Cu h) (k0 : ∀ (h' : my_H), my_fr [(4, 4), (4, 5), (4, 6), (4, 7), (4, 8), (4, 9), (5, 5), (5, 6), (5, 7), (5, 8), (5, 9), (32, -1), (33, -1), (34, -1), (35, -1), (36, -1), (37, -1), (38, -1), (39, -1)] h h' → 1 ≤ h' 82 9 → h' 82 9 ≤ 16005 → ∃ y c s : Int, paneR (cs h) (h 2) (h (h 82 2) 3) (h 82 7) (h (h 82 2) 4) (h (h 82 2) 9) (h' 82 9) y c s → Lo h h' → Ln h' → Sp h' wv → Al h' → Cu h' → Q h' (9, 0)) (k1 : ∀ (h' : my_H), my_fr [(4, 4), (4, 5), (4, 6), (4, 7), (4, 8), (4, 9), (5, 5), (5, 6), (5, 7), (5, 8), (5, 9), (32, -1), (33, -1), (34, -1), (35, -1), (36, -1), (37, -1), (38, -1), (39, -1)] h h' → h' 82 9 = 0 → paneR (cs h) (h 2) (h (h 82 2) 3) (h 82 7) (h (h 82 2) 4) (h (h 82 2) 9) (h' 82 9) (h' 82 7) (h' (h 82 2) 4) (h' (h 82 2) 9) → h' 82 2 = h 82 2 ∧ h' (h 82 2) 3 = h (h 82 2) 3 ∧ h' (h 82 2) 1 = h (h 82 2) 1 → Lo h h' → Ln h' → Sp h' wv → Al h' → Cu h' → Q h' (9, 0)) : wp l rho (d + 7) 49 0 [(2, 82), (9, 0), (9, 0), (9, 0), (9, 0), (9, 0)] [] h Q := by
  have ck1 := Cu_s n_Cu
  refine w_aload_n gz_49_0 rfl ?_
  refine w_ldcS gz_49_1 (by decide) ?_
  refine w_inv (k := 1) (as := [(3, ((4 : Nat) : Int))]) (r := []) (x := 82) (ls0 := [(2, 82), (3, ((4 : Nat) : Int)), (9, 0)]) gz_49_3 gm_41 rfl is_82 rd_5 rfl rfl rfl rfl rfl (c_Reader_isWord9_f0 (d := (d + 2)) (x1 := ((4 : Nat) : Int)) (by decide) (cf.trans (by omega)) n_Cu (fun w2 xp3 => ?_) (fun w4 w5 xp6 => ?_))
  ·
    show wp l rho (d + 7) 49 6 [(2, 82), (9, 0), (9, 0), (9, 0), (9, 0), (9, 0)] [(0, 0)] h Q
    rw [show wc ((4 : Nat) : Int) = 316695 from by decide] at xp3
    refine w_istore_n (ls' := [(2, 82), (0, 0), (9, 0), (9, 0), (9, 0), (9, 0)]) gz_49_6 gm_49 rfl rfl rfl ?_
    refine w_aload_n gz_49_7 rfl ?_
    refine w_ldcS gz_49_8 (by decide) ?_
    refine w_inv (k := 1) (as := [(3, ((5 : Nat) : Int))]) (r := []) (x := 82) (ls0 := [(2, 82), (3, ((5 : Nat) : Int)), (9, 0)]) gz_49_10 gm_41 rfl is_82 rd_5 rfl rfl rfl rfl rfl (c_Reader_isWord9_f0 (d := (d + 2)) (x1 := ((5 : Nat) : Int)) (by decide) (cf.trans (by omega)) n_Cu (fun w7 xp8 => ?_) (fun w9 w10 xp11 => ?_))
    ·
      show wp l rho (d + 7) 49 13 [(2, 82), (0, 0), (9, 0), (9, 0), (9, 0), (9, 0)] [(0, 0)] h Q
      rw [show wc ((5 : Nat) : Int) = 4904 from by decide] at xp8
      refine w_istore_n (ls' := [(2, 82), (0, 0), (0, 0), (9, 0), (9, 0), (9, 0)]) gz_49_13 gm_49 rfl rfl rfl ?_
      refine w_aload_n gz_49_14 rfl ?_
      refine w_ldcS gz_49_15 (by decide) ?_
      refine w_inv (k := 1) (as := [(3, ((6 : Nat) : Int))]) (r := []) (x := 82) (ls0 := [(2, 82), (3, ((6 : Nat) : Int)), (9, 0)]) gz_49_17 gm_41 rfl is_82 rd_5 rfl rfl rfl rfl rfl (c_Reader_isWord9_f0 (d := (d + 2)) (x1 := ((6 : Nat) : Int)) (by decide) (cf.trans (by omega)) n_Cu (fun w12 xp13 => ?_) (fun w14 w15 xp16 => ?_))
      ·
        show wp l rho (d + 7) 49 20 [(2, 82), (0, 0), (0, 0), (9, 0), (9, 0), (9, 0)] [(0, 0)] h Q
        rw [show wc ((6 : Nat) : Int) = 8422 from by decide] at xp13
        refine w_istore_n (ls' := [(2, 82), (0, 0), (0, 0), (0, 0), (9, 0), (9, 0)]) gz_49_20 gm_49 rfl rfl rfl ?_
        refine w_aload_n gz_49_21 rfl ?_
        refine w_ldcS gz_49_22 (by decide) ?_
        refine w_inv (k := 1) (as := [(3, ((7 : Nat) : Int))]) (r := []) (x := 82) (ls0 := [(2, 82), (3, ((7 : Nat) : Int)), (9, 0)]) gz_49_24 gm_41 rfl is_82 rd_5 rfl rfl rfl rfl rfl (c_Reader_isWord9_f0 (d := (d + 2)) (x1 := ((7 : Nat) : Int)) (by decide) (cf.trans (by omega)) n_Cu (fun w17 xp18 => ?_) (fun w19 w20 xp21 => ?_))
        ·
          show wp l rho (d + 7) 49 27 [(2, 82), (0, 0), (0, 0), (0, 0), (9, 0), (9, 0)] [(0, 0)] h Q
          rw [show wc ((7 : Nat) : Int) = 527412 from by decide] at xp18
          refine w_istore (ls' := [(2, 82), (0, 0), (0, 0), (0, 0), (0, 0), (9, 0)]) gz_49_27 gm_49 rfl rfl rfl ?_
          refine w_aload_n gz_49_29 rfl ?_
          refine w_ldcS gz_49_30 (by decide) ?_
          refine w_inv (k := 1) (as := [(3, ((8 : Nat) : Int))]) (r := []) (x := 82) (ls0 := [(2, 82), (3, ((8 : Nat) : Int)), (9, 0)]) gz_49_32 gm_41 rfl is_82 rd_5 rfl rfl rfl rfl rfl (c_Reader_isWord9_f0 (d := (d + 2)) (x1 := ((8 : Nat) : Int)) (by decide) (cf.trans (by omega)) n_Cu (fun w22 xp23 => ?_) (fun w24 w25 xp26 => ?_))
          ·
            show wp l rho (d + 7) 49 35 [(2, 82), (0, 0), (0, 0), (0, 0), (0, 0), (9, 0)] [(0, 0)] h Q
            rw [show wc ((8 : Nat) : Int) = 26801 from by decide] at xp23
            refine w_istore (ls' := [(2, 82), (0, 0), (0, 0), (0, 0), (0, 0), (0, 0)]) gz_49_35 gm_49 rfl rfl rfl ?_
            refine w_iload_n gz_49_37 rfl ?_
            refine w_ifne (t := 65) gz_49_38 rfl (fun u27 => by exfalso; omega) (fun u27 => ?_)
            refine w_iload_n gz_49_41 rfl ?_
            refine w_ifne (t := 65) gz_49_42 rfl (fun u28 => by exfalso; omega) (fun u28 => ?_)
            refine w_iload_n gz_49_45 rfl ?_
            refine w_ifne (t := 65) gz_49_46 rfl (fun u29 => by exfalso; omega) (fun u29 => ?_)
            refine w_iload gz_49_49 rfl ?_
            refine w_ifne (t := 65) gz_49_51 rfl (fun u30 => by exfalso; omega) (fun u30 => ?_)
            refine w_iload gz_49_54 rfl ?_
            refine w_ifne (t := 65) gz_49_56 rfl (fun u31 => by exfalso; omega) (fun u31 => ?_)
            refine w_aload_n gz_49_59 rfl ?_
            refine w_iconst gz_49_60 (by decide) ?_
            refine w_inv (k := 0) (as := [(0, 1)]) (r := []) (x := 82) (ls0 := [(2, 82), (0, 1)]) gz_49_61 gm_42 rfl is_82 rd_5 rfl rfl rfl rfl rfl ?_
            refine w_aload_n gz_42_0 rfl ?_
            refine v_getI (j := 9) gz_42_1 rfl is_82 rd_5 rfl (fun v32 ev32 pv32 qv32 => ?_)
            have zv32 := ev32.trans cf
            refine w_ifne (t := 20) gz_42_4 rfl (fun u33 => by exfalso; omega) (fun u33 => ?_)
            refine w_aload_n gz_42_7 rfl ?_
            refine w_iload_n gz_42_8 rfl ?_
            refine w_bipush gz_42_9 (by decide) ?_
            refine w_aload_n gz_42_11 rfl ?_
            refine v_getI (j := 7) gz_42_12 rfl is_82 rd_5 rfl (fun v34 ev34 pv34 qv34 => ?_)
            refine w_imul gz_42_15 ⟨by omega, by omega⟩ ?_
            refine w_iadd gz_42_16 ⟨by omega, by omega⟩ ?_
            refine v_putI (j := 9) gz_42_17 rfl is_82 rd_5 rfl (by omega) (by omega) rfl (fun h35 fh35 => ?_)
            have gh35 : my_fr [(4, 4), (4, 5), (4, 6), (4, 7), (4, 8), (4, 9), (5, 5), (5, 6), (5, 7), (5, 8), (5, 9), (32, -1), (33, -1), (34, -1), (35, -1), (36, -1), (37, -1), (38, -1), (39, -1)] h h35 := my_fr.up my_fr.rf is_82 fh35 rfl
            have Ln_h35 : Ln h35 := Ln_ag (my_ag.up fh35 is_82 rfl) n_Ln
            have Sp_h35 : Sp h35 wv := Sp_ag (my_ag.up fh35 is_82 rfl) hwv n_Ln n_Sp
            have Al_h35 : Al h35 := Al_ag (my_ag.up fh35 is_82 rfl) n_Al
            have Cu_h35 : Cu h35 := Cu_ag (my_ag.up fh35 is_82 rfl) n_Cu
            have Lo_h35 : Lo h h35 := Lo_ag (my_ag.up fh35 is_82 rfl) n_Ln (Lo_rf)
            refine w_vret gz_42_20 gm_42 ?_
            show wp l rho (d + 7) 49 64 [(2, 82), (0, 0), (0, 0), (0, 0), (0, 0), (0, 0)] [] h35 Q
            have psR : h35 82 7 = h 82 7 := ((my_up_fld fh35 (by decide)).trans (rfl : h 82 7 = h 82 7))
            have npsR : cs h35 = cs h := cs_eq (fun j => my_fr.at gh35 is_92 rfl) (my_fr.at gh35 is_82 rfl)
            have c36 := (my_up_self fh35)
            exact w_vret gz_49_64 gm_49 (k0 h35 (gh35) (by omega) (by omega) (by first | exact Lo_h35 | exact ⟨st.1, st.2.1, st.2.2.2.2⟩ | exact Or.inl ⟨by omega, zF, st.2.2.1, st.2.2.2.1⟩ | exact Or.inr (Or.inr (Or.inl ⟨by omega, by omega, zC, st.2.2.1, st.2.2.2.1⟩)) | exact Or.inr (Or.inr (Or.inr (Or.inl ⟨by omega, by omega, zW, st.2.2.2.1⟩))) | exact Or.inr (Or.inr (Or.inr (Or.inr (Or.inl ⟨by omega, by omega, zJ, fun _ => st.2.2.1, st.2.2.2.1⟩)))) | exact Or.inr (Or.inr (Or.inr (Or.inr (Or.inr (Or.inl ⟨by omega, by omega, zS, st.2.2.1, st.2.2.2.1⟩))))) | exact ⟨_, _, _, Or.inl ⟨by omega, zF, rfl, rfl⟩⟩ | exact ⟨_, _, _, Or.inr (Or.inr (Or.inl ⟨by omega, by omega, zC, rfl, rfl⟩))⟩ | exact ⟨_, _, _, Or.inr (Or.inr (Or.inr (Or.inl ⟨by omega, by omega, zW, rfl⟩)))⟩ | exact ⟨_, _, _, Or.inr (Or.inr (Or.inr (Or.inr (Or.inl ⟨by omega, by omega, zJ, fun q => absurd q (by omega), rfl⟩))))⟩ | exact ⟨_, _, _, Or.inr (Or.inr (Or.inr (Or.inr (Or.inr (Or.inl ⟨by omega, by omega, zS, rfl, rfl⟩)))))⟩ | exact ⟨0, 0, 0, Or.inr (Or.inl ⟨by omega, by omega, by omega⟩)⟩ | exact ⟨0, 0, 0, Or.inr (Or.inr (Or.inr (Or.inr (Or.inr (Or.inr ⟨by omega, by omega, by omega, by omega, by omega, by omega⟩)))))⟩ | (exfalso; omega) | omega) (by first | exact Lo_h35 | exact ⟨st.1, st.2.1, st.2.2.2.2⟩ | exact Or.inl ⟨by omega, zF, st.2.2.1, st.2.2.2.1⟩ | exact Or.inr (Or.inr (Or.inl ⟨by omega, by omega, zC, st.2.2.1, st.2.2.2.1⟩)) | exact Or.inr (Or.inr (Or.inr (Or.inl ⟨by omega, by omega, zW, st.2.2.2.1⟩))) | exact Or.inr (Or.inr (Or.inr (Or.inr (Or.inl ⟨by omega, by omega, zJ, fun _ => st.2.2.1, st.2.2.2.1⟩)))) | exact Or.inr (Or.inr (Or.inr (Or.inr (Or.inr (Or.inl ⟨by omega, by omega, zS, st.2.2.1, st.2.2.2.1⟩))))) | exact ⟨_, _, _, Or.inl ⟨by omega, zF, rfl, rfl⟩⟩ | exact ⟨_, _, _, Or.inr (Or.inr (Or.inl ⟨by omega, by omega, zC, rfl, rfl⟩))⟩ | exact ⟨_, _, _, Or.inr (Or.inr (Or.inr (Or.inl ⟨by omega, by omega, zW, rfl⟩)))⟩ | exact ⟨_, _, _, Or.inr (Or.inr (Or.inr (Or.inr (Or.inl ⟨by omega, by omega, zJ, fun q => absurd q (by omega), rfl⟩))))⟩ | exact ⟨_, _, _, Or.inr (Or.inr (Or.inr (Or.inr (Or.inr (Or.inl ⟨by omega, by omega, zS, rfl, rfl⟩)))))⟩ | exact ⟨0, 0, 0, Or.inr (Or.inl ⟨by omega, by omega, by omega⟩)⟩ | exact ⟨0, 0, 0, Or.inr (Or.inr (Or.inr (Or.inr (Or.inr (Or.inr ⟨by omega, by omega, by omega, by omega, by omega, by omega⟩)))))⟩ | (exfalso; omega) | omega) Ln_h35 Sp_h35 Al_h35 Cu_h35)
          ·
            show wp l rho (d + 7) 49 35 [(2, 82), (0, 0), (0, 0), (0, 0), (0, 0), (9, 0)] [(0, 1)] h Q
            rw [show wc ((8 : Nat) : Int) = 26801 from by decide] at xp26
            refine w_istore (ls' := [(2, 82), (0, 0), (0, 0), (0, 0), (0, 0), (0, 1)]) gz_49_35 gm_49 rfl rfl rfl ?_
            refine w_iload_n gz_49_37 rfl ?_
            refine w_ifne (t := 65) gz_49_38 rfl (fun u37 => by exfalso; omega) (fun u37 => ?_)
            refine w_iload_n gz_49_41 rfl ?_
            refine w_ifne (t := 65) gz_49_42 rfl (fun u38 => by exfalso; omega) (fun u38 => ?_)
            refine w_iload_n gz_49_45 rfl ?_
            refine w_ifne (t := 65) gz_49_46 rfl (fun u39 => by exfalso; omega) (fun u39 => ?_)
            refine w_iload gz_49_49 rfl ?_
            refine w_ifne (t := 65) gz_49_51 rfl (fun u40 => by exfalso; omega) (fun u40 => ?_)
            refine w_iload gz_49_54 rfl ?_
            refine w_ifne (t := 65) gz_49_56 rfl (fun u41 => ?_) (fun u41 => by exfalso; omega)
            refine w_iload_n gz_49_65 rfl ?_
            refine w_ifne (t := 87) gz_49_66 rfl (fun u42 => by exfalso; omega) (fun u42 => ?_)
            refine w_aload_n gz_49_69 rfl ?_
            refine v_getR (j := 2) gz_49_70 rfl is_82 rd_5 rfl (fun v43 ev43 tv43 => ?_)
            have sE73 : v43 = h 82 2 := by first | assumption | omega
            refine v_getI (j := 9) gz_49_73 rfl tv43 rd_4 rfl (fun v44 ev44 pv44 qv44 => ?_)
            have c76 : v44 = h (h 82 2) 9 := by rw [← sE73]; omega
            refine w_bipush gz_49_76 (by decide) ?_
            refine w_iclt (t := 87) gz_49_78 rfl (fun u45 => ?_) (fun u45 => ?_)
            ·
              have St5_ht46 : St5 h := ⟨by subst_vars; omega, by subst_vars; omega⟩
              refine w_aload_n gz_49_87 rfl ?_
              refine w_inv (k := 2) (as := []) (r := []) (x := 82) (ls0 := [(2, 82), (9, 0), (9, 0)]) gz_49_88 gm_37 rfl is_82 rd_5 rfl rfl rfl rfl rfl (c_Reader_nextToken9_f0 (d := (d + 5))  (cf.trans (by omega)) n_Al (fun h47 frh47 w48 w49 w50 xp51 xp52 Al_h47t53 Cu_h47t54 => ?_))
              have gh47 : my_fr [(4, 4), (4, 5), (4, 6), (4, 7), (4, 8), (4, 9), (5, 5), (5, 6), (5, 7), (5, 8), (5, 9), (32, -1), (33, -1), (34, -1), (35, -1), (36, -1), (37, -1), (38, -1), (39, -1)] h h47 := my_fr.tr my_fr.rf (frh47.mo rfl)
              have Ln_h47 : Ln h47 := Ln_ag (my_ag.fr frh47 rfl) n_Ln
              have Sp_h47 : Sp h47 wv := Sp_ag (my_ag.fr frh47 rfl) hwv n_Ln n_Sp
              have Lo_h47 : Lo h h47 := Lo_ag (my_ag.fr frh47 rfl) n_Ln (Lo_rf)
              have St5_h47 : St5 h47 := St5_ag (my_ag.fr frh47 rfl) n_Ln St5_ht46
              show wp l rho (d + 7) 49 91 [(2, 82), (0, 0), (0, 0), (0, 0), (0, 0), (0, 1)] [] h47 Q
              have xc55 := xp51 n_Cu
              have ck56 := Cu_s Cu_h47t54
              rw [show cs h47 = cs h from cs_eq (fun j => my_fr.at gh47 is_92 rfl) (my_fr.at gh47 is_82 rfl)] at ck56
              rw [show h47 82 7 = (sN (cs h) (h 82 7)) from xc55] at ck56
              refine w_iload_n gz_49_91 rfl ?_
              refine w_ifeq (t := 102) gz_49_92 rfl (fun u57 => ?_) (fun u57 => by exfalso; omega)
              refine w_iload_n gz_49_102 rfl ?_
              refine w_ifeq (t := 113) gz_49_103 rfl (fun u58 => ?_) (fun u58 => by exfalso; omega)
              refine w_iload_n gz_49_113 rfl ?_
              refine w_ifeq (t := 124) gz_49_114 rfl (fun u59 => ?_) (fun u59 => by exfalso; omega)
              refine w_iload gz_49_124 rfl ?_
              refine w_ifeq (t := 136) gz_49_126 rfl (fun u60 => ?_) (fun u60 => by exfalso; omega)
              refine w_aload_n gz_49_136 rfl ?_
              refine w_inv (k := 2) (as := []) (r := []) (x := 82) (ls0 := [(2, 82), (9, 0), (9, 0)]) gz_49_137 gm_62 rfl is_82 rd_5 rfl rfl rfl rfl rfl (c_Reader_readSum9_f0 (d := d)  (wv := wv) (((my_fr.at frh47 is_82 rfl).trans cf).trans (by omega)) (by first | assumption | omega) (by first | assumption | omega) Ln_h47 Sp_h47 St5_h47 Al_h47t53 Cu_h47t54 (fun h61 frh61 w62 w63 xp64 xp65 Ln_h61t66 Sp_h61t67 Al_h61t68 Cu_h61t69 => ?_) (fun h70 frh70 w71 xp72 xp73 xp74 Ln_h70t75 Sp_h70t76 Al_h70t77 Cu_h70t78 => ?_))
              ·
                have gh61 : my_fr [(4, 4), (4, 5), (4, 6), (4, 7), (4, 8), (4, 9), (5, 5), (5, 6), (5, 7), (5, 8), (5, 9), (32, -1), (33, -1), (34, -1), (35, -1), (36, -1), (37, -1), (38, -1), (39, -1)] h h61 := my_fr.tr gh47 (frh61.mo rfl)
                show wp l rho (d + 7) 49 140 [(2, 82), (0, 0), (0, 0), (0, 0), (0, 0), (0, 1)] [] h61 Q
                have tE79 : cs h47 = cs h := cs_eq (fun j => my_fr.at gh47 is_92 rfl) (my_fr.at gh47 is_82 rfl)
                rw [tE79] at xp64
                have ps80 : h47 82 7 = (sN (cs h) (h 82 7)) := xc55
                rw [ps80] at xp64
                have ck81 := Cu_s Cu_h61t69
                rw [show cs h61 = cs h from cs_eq (fun j => my_fr.at gh61 is_92 rfl) (my_fr.at gh61 is_82 rfl)] at ck81
                have q2 : h47 82 2 = h 82 2 := my_fr.at frh47 is_82 rfl
                have q11 : h47 (h 82 2) 1 = h (h 82 2) 1 := my_fr.at frh47 n_Ln.2.2.2.1 rfl
                have q13 : h47 (h 82 2) 3 = h (h 82 2) 3 := my_fr.at frh47 n_Ln.2.2.2.1 rfl
                have q14 : h47 (h 82 2) 4 = h (h 82 2) 4 := my_fr.at frh47 n_Ln.2.2.2.1 rfl
                have q19 : h47 (h 82 2) 9 = h (h 82 2) 9 := my_fr.at frh47 n_Ln.2.2.2.1 rfl
                have qc : h47 2 = h 2 := funext (fun j => my_fr.at frh47 is_2 rfl)
                have zS := xp64
                simp only [q2, q11, q13, q14, q19, qc] at zS
                have Lo_h61t82 : Lo h h61 := Lo_tr Lo_h47 xp65
                have psR : h61 82 7 = h61 82 7 := (rfl : h61 82 7 = h61 82 7)
                have npsR : cs h61 = cs h := cs_eq (fun j => my_fr.at gh61 is_92 rfl) (my_fr.at gh61 is_82 rfl)
                have c83 := (rfl : h61 82 9 = h61 82 9)
                exact w_vret gz_49_140 gm_49 (k0 h61 (gh61) (by omega) (by omega) (by first | exact Lo_h61t82 | exact ⟨st.1, st.2.1, st.2.2.2.2⟩ | exact Or.inl ⟨by omega, zF, st.2.2.1, st.2.2.2.1⟩ | exact Or.inr (Or.inr (Or.inl ⟨by omega, by omega, zC, st.2.2.1, st.2.2.2.1⟩)) | exact Or.inr (Or.inr (Or.inr (Or.inl ⟨by omega, by omega, zW, st.2.2.2.1⟩))) | exact Or.inr (Or.inr (Or.inr (Or.inr (Or.inl ⟨by omega, by omega, zJ, fun _ => st.2.2.1, st.2.2.2.1⟩)))) | exact Or.inr (Or.inr (Or.inr (Or.inr (Or.inr (Or.inl ⟨by omega, by omega, zS, st.2.2.1, st.2.2.2.1⟩))))) | exact ⟨_, _, _, Or.inl ⟨by omega, zF, rfl, rfl⟩⟩ | exact ⟨_, _, _, Or.inr (Or.inr (Or.inl ⟨by omega, by omega, zC, rfl, rfl⟩))⟩ | exact ⟨_, _, _, Or.inr (Or.inr (Or.inr (Or.inl ⟨by omega, by omega, zW, rfl⟩)))⟩ | exact ⟨_, _, _, Or.inr (Or.inr (Or.inr (Or.inr (Or.inl ⟨by omega, by omega, zJ, fun q => absurd q (by omega), rfl⟩))))⟩ | exact ⟨_, _, _, Or.inr (Or.inr (Or.inr (Or.inr (Or.inr (Or.inl ⟨by omega, by omega, zS, rfl, rfl⟩)))))⟩ | exact ⟨0, 0, 0, Or.inr (Or.inl ⟨by omega, by omega, by omega⟩)⟩ | exact ⟨0, 0, 0, Or.inr (Or.inr (Or.inr (Or.inr (Or.inr (Or.inr ⟨by omega, by omega, by omega, by omega, by omega, by omega⟩)))))⟩ | (exfalso; omega) | omega) (by first | exact Lo_h61t82 | exact ⟨st.1, st.2.1, st.2.2.2.2⟩ | exact Or.inl ⟨by omega, zF, st.2.2.1, st.2.2.2.1⟩ | exact Or.inr (Or.inr (Or.inl ⟨by omega, by omega, zC, st.2.2.1, st.2.2.2.1⟩)) | exact Or.inr (Or.inr (Or.inr (Or.inl ⟨by omega, by omega, zW, st.2.2.2.1⟩))) | exact Or.inr (Or.inr (Or.inr (Or.inr (Or.inl ⟨by omega, by omega, zJ, fun _ => st.2.2.1, st.2.2.2.1⟩)))) | exact Or.inr (Or.inr (Or.inr (Or.inr (Or.inr (Or.inl ⟨by omega, by omega, zS, st.2.2.1, st.2.2.2.1⟩))))) | exact ⟨_, _, _, Or.inl ⟨by omega, zF, rfl, rfl⟩⟩ | exact ⟨_, _, _, Or.inr (Or.inr (Or.inl ⟨by omega, by omega, zC, rfl, rfl⟩))⟩ | exact ⟨_, _, _, Or.inr (Or.inr (Or.inr (Or.inl ⟨by omega, by omega, zW, rfl⟩)))⟩ | exact ⟨_, _, _, Or.inr (Or.inr (Or.inr (Or.inr (Or.inl ⟨by omega, by omega, zJ, fun q => absurd q (by omega), rfl⟩))))⟩ | exact ⟨_, _, _, Or.inr (Or.inr (Or.inr (Or.inr (Or.inr (Or.inl ⟨by omega, by omega, zS, rfl, rfl⟩)))))⟩ | exact ⟨0, 0, 0, Or.inr (Or.inl ⟨by omega, by omega, by omega⟩)⟩ | exact ⟨0, 0, 0, Or.inr (Or.inr (Or.inr (Or.inr (Or.inr (Or.inr ⟨by omega, by omega, by omega, by omega, by omega, by omega⟩)))))⟩ | (exfalso; omega) | omega) Ln_h61t66 Sp_h61t67 Al_h61t68 Cu_h61t69)
              ·
                have gh70 : my_fr [(4, 4), (4, 5), (4, 6), (4, 7), (4, 8), (4, 9), (5, 5), (5, 6), (5, 7), (5, 8), (5, 9), (32, -1), (33, -1), (34, -1), (35, -1), (36, -1), (37, -1), (38, -1), (39, -1)] h h70 := my_fr.tr gh47 (frh70.mo rfl)
                show wp l rho (d + 7) 49 140 [(2, 82), (0, 0), (0, 0), (0, 0), (0, 0), (0, 1)] [] h70 Q
                have tE84 : cs h47 = cs h := cs_eq (fun j => my_fr.at gh47 is_92 rfl) (my_fr.at gh47 is_82 rfl)
                rw [tE84] at xp72
                have ps85 : h47 82 7 = (sN (cs h) (h 82 7)) := xc55
                rw [ps85] at xp72
                have ck86 := Cu_s Cu_h70t78
                rw [show cs h70 = cs h from cs_eq (fun j => my_fr.at gh70 is_92 rfl) (my_fr.at gh70 is_82 rfl)] at ck86
                have q2 : h47 82 2 = h 82 2 := my_fr.at frh47 is_82 rfl
                have q11 : h47 (h 82 2) 1 = h (h 82 2) 1 := my_fr.at frh47 n_Ln.2.2.2.1 rfl
                have q13 : h47 (h 82 2) 3 = h (h 82 2) 3 := my_fr.at frh47 n_Ln.2.2.2.1 rfl
                have q14 : h47 (h 82 2) 4 = h (h 82 2) 4 := my_fr.at frh47 n_Ln.2.2.2.1 rfl
                have q19 : h47 (h 82 2) 9 = h (h 82 2) 9 := my_fr.at frh47 n_Ln.2.2.2.1 rfl
                have qc : h47 2 = h 2 := funext (fun j => my_fr.at frh47 is_2 rfl)
                have zS := xp72
                simp only [q2, q11, q13, q14, q19, qc] at zS
                have st := xp73
                unfold Std at st
                simp only [q2, q11, q13, q14, q19, qc] at st
                have Lo_h70t87 : Lo h h70 := Lo_tr Lo_h47 xp74
                have psR : h70 82 7 = h70 82 7 := (rfl : h70 82 7 = h70 82 7)
                have npsR : cs h70 = cs h := cs_eq (fun j => my_fr.at gh70 is_92 rfl) (my_fr.at gh70 is_82 rfl)
                have c88 := w71
                exact w_vret gz_49_140 gm_49 (k1 h70 (gh70) (by omega) (by first | exact Lo_h70t87 | exact ⟨st.1, st.2.1, st.2.2.2.2⟩ | exact Or.inl ⟨by omega, zF, st.2.2.1, st.2.2.2.1⟩ | exact Or.inr (Or.inr (Or.inl ⟨by omega, by omega, zC, st.2.2.1, st.2.2.2.1⟩)) | exact Or.inr (Or.inr (Or.inr (Or.inl ⟨by omega, by omega, zW, st.2.2.2.1⟩))) | exact Or.inr (Or.inr (Or.inr (Or.inr (Or.inl ⟨by omega, by omega, zJ, fun _ => st.2.2.1, st.2.2.2.1⟩)))) | exact Or.inr (Or.inr (Or.inr (Or.inr (Or.inr (Or.inl ⟨by omega, by omega, zS, st.2.2.1, st.2.2.2.1⟩))))) | exact ⟨_, _, _, Or.inl ⟨by omega, zF, rfl, rfl⟩⟩ | exact ⟨_, _, _, Or.inr (Or.inr (Or.inl ⟨by omega, by omega, zC, rfl, rfl⟩))⟩ | exact ⟨_, _, _, Or.inr (Or.inr (Or.inr (Or.inl ⟨by omega, by omega, zW, rfl⟩)))⟩ | exact ⟨_, _, _, Or.inr (Or.inr (Or.inr (Or.inr (Or.inl ⟨by omega, by omega, zJ, fun q => absurd q (by omega), rfl⟩))))⟩ | exact ⟨_, _, _, Or.inr (Or.inr (Or.inr (Or.inr (Or.inr (Or.inl ⟨by omega, by omega, zS, rfl, rfl⟩)))))⟩ | exact ⟨0, 0, 0, Or.inr (Or.inl ⟨by omega, by omega, by omega⟩)⟩ | exact ⟨0, 0, 0, Or.inr (Or.inr (Or.inr (Or.inr (Or.inr (Or.inr ⟨by omega, by omega, by omega, by omega, by omega, by omega⟩)))))⟩ | (exfalso; omega) | omega) (by first | exact Lo_h70t87 | exact ⟨st.1, st.2.1, st.2.2.2.2⟩ | exact Or.inl ⟨by omega, zF, st.2.2.1, st.2.2.2.1⟩ | exact Or.inr (Or.inr (Or.inl ⟨by omega, by omega, zC, st.2.2.1, st.2.2.2.1⟩)) | exact Or.inr (Or.inr (Or.inr (Or.inl ⟨by omega, by omega, zW, st.2.2.2.1⟩))) | exact Or.inr (Or.inr (Or.inr (Or.inr (Or.inl ⟨by omega, by omega, zJ, fun _ => st.2.2.1, st.2.2.2.1⟩)))) | exact Or.inr (Or.inr (Or.inr (Or.inr (Or.inr (Or.inl ⟨by omega, by omega, zS, st.2.2.1, st.2.2.2.1⟩))))) | exact ⟨_, _, _, Or.inl ⟨by omega, zF, rfl, rfl⟩⟩ | exact ⟨_, _, _, Or.inr (Or.inr (Or.inl ⟨by omega, by omega, zC, rfl, rfl⟩))⟩ | exact ⟨_, _, _, Or.inr (Or.inr (Or.inr (Or.inl ⟨by omega, by omega, zW, rfl⟩)))⟩ | exact ⟨_, _, _, Or.inr (Or.inr (Or.inr (Or.inr (Or.inl ⟨by omega, by omega, zJ, fun q => absurd q (by omega), rfl⟩))))⟩ | exact ⟨_, _, _, Or.inr (Or.inr (Or.inr (Or.inr (Or.inr (Or.inl ⟨by omega, by omega, zS, rfl, rfl⟩)))))⟩ | exact ⟨0, 0, 0, Or.inr (Or.inl ⟨by omega, by omega, by omega⟩)⟩ | exact ⟨0, 0, 0, Or.inr (Or.inr (Or.inr (Or.inr (Or.inr (Or.inr ⟨by omega, by omega, by omega, by omega, by omega, by omega⟩)))))⟩ | (exfalso; omega) | omega) (by first | exact Lo_h70t87 | exact ⟨st.1, st.2.1, st.2.2.2.2⟩ | exact Or.inl ⟨by omega, zF, st.2.2.1, st.2.2.2.1⟩ | exact Or.inr (Or.inr (Or.inl ⟨by omega, by omega, zC, st.2.2.1, st.2.2.2.1⟩)) | exact Or.inr (Or.inr (Or.inr (Or.inl ⟨by omega, by omega, zW, st.2.2.2.1⟩))) | exact Or.inr (Or.inr (Or.inr (Or.inr (Or.inl ⟨by omega, by omega, zJ, fun _ => st.2.2.1, st.2.2.2.1⟩)))) | exact Or.inr (Or.inr (Or.inr (Or.inr (Or.inr (Or.inl ⟨by omega, by omega, zS, st.2.2.1, st.2.2.2.1⟩))))) | exact ⟨_, _, _, Or.inl ⟨by omega, zF, rfl, rfl⟩⟩ | exact ⟨_, _, _, Or.inr (Or.inr (Or.inl ⟨by omega, by omega, zC, rfl, rfl⟩))⟩ | exact ⟨_, _, _, Or.inr (Or.inr (Or.inr (Or.inl ⟨by omega, by omega, zW, rfl⟩)))⟩ | exact ⟨_, _, _, Or.inr (Or.inr (Or.inr (Or.inr (Or.inl ⟨by omega, by omega, zJ, fun q => absurd q (by omega), rfl⟩))))⟩ | exact ⟨_, _, _, Or.inr (Or.inr (Or.inr (Or.inr (Or.inr (Or.inl ⟨by omega, by omega, zS, rfl, rfl⟩)))))⟩ | exact ⟨0, 0, 0, Or.inr (Or.inl ⟨by omega, by omega, by omega⟩)⟩ | exact ⟨0, 0, 0, Or.inr (Or.inr (Or.inr (Or.inr (Or.inr (Or.inr ⟨by omega, by omega, by omega, by omega, by omega, by omega⟩)))))⟩ | (exfalso; omega) | omega) Ln_h70t75 Sp_h70t76 Al_h70t77 Cu_h70t78)
            ·
              refine w_aload_n gz_49_81 rfl ?_
              refine w_iconst gz_49_82 (by decide) ?_
              refine w_inv (k := 0) (as := [(0, 5)]) (r := []) (x := 82) (ls0 := [(2, 82), (0, 5)]) gz_49_83 gm_42 rfl is_82 rd_5 rfl rfl rfl rfl rfl ?_
              refine w_aload_n gz_42_0 rfl ?_
              refine v_getI (j := 9) gz_42_1 rfl is_82 rd_5 rfl (fun v89 ev89 pv89 qv89 => ?_)
              have zv89 := ev89.trans cf
              refine w_ifne (t := 20) gz_42_4 rfl (fun u90 => by exfalso; omega) (fun u90 => ?_)
              refine w_aload_n gz_42_7 rfl ?_
              refine w_iload_n gz_42_8 rfl ?_
              refine w_bipush gz_42_9 (by decide) ?_
              refine w_aload_n gz_42_11 rfl ?_
              refine v_getI (j := 7) gz_42_12 rfl is_82 rd_5 rfl (fun v91 ev91 pv91 qv91 => ?_)
              refine w_imul gz_42_15 ⟨by omega, by omega⟩ ?_
              refine w_iadd gz_42_16 ⟨by omega, by omega⟩ ?_
              refine v_putI (j := 9) gz_42_17 rfl is_82 rd_5 rfl (by omega) (by omega) rfl (fun h92 fh92 => ?_)
              have gh92 : my_fr [(4, 4), (4, 5), (4, 6), (4, 7), (4, 8), (4, 9), (5, 5), (5, 6), (5, 7), (5, 8), (5, 9), (32, -1), (33, -1), (34, -1), (35, -1), (36, -1), (37, -1), (38, -1), (39, -1)] h h92 := my_fr.up my_fr.rf is_82 fh92 rfl
              have Ln_h92 : Ln h92 := Ln_ag (my_ag.up fh92 is_82 rfl) n_Ln
              have Sp_h92 : Sp h92 wv := Sp_ag (my_ag.up fh92 is_82 rfl) hwv n_Ln n_Sp
              have Al_h92 : Al h92 := Al_ag (my_ag.up fh92 is_82 rfl) n_Al
              have Cu_h92 : Cu h92 := Cu_ag (my_ag.up fh92 is_82 rfl) n_Cu
              have Lo_h92 : Lo h h92 := Lo_ag (my_ag.up fh92 is_82 rfl) n_Ln (Lo_rf)
              refine w_vret gz_42_20 gm_42 ?_
              show wp l rho (d + 7) 49 86 [(2, 82), (0, 0), (0, 0), (0, 0), (0, 0), (0, 1)] [] h92 Q
              have psR : h92 82 7 = h 82 7 := ((my_up_fld fh92 (by decide)).trans (rfl : h 82 7 = h 82 7))
              have npsR : cs h92 = cs h := cs_eq (fun j => my_fr.at gh92 is_92 rfl) (my_fr.at gh92 is_82 rfl)
              have c93 := (my_up_self fh92)
              exact w_vret gz_49_86 gm_49 (k0 h92 (gh92) (by omega) (by omega) (by first | exact Lo_h92 | exact ⟨st.1, st.2.1, st.2.2.2.2⟩ | exact Or.inl ⟨by omega, zF, st.2.2.1, st.2.2.2.1⟩ | exact Or.inr (Or.inr (Or.inl ⟨by omega, by omega, zC, st.2.2.1, st.2.2.2.1⟩)) | exact Or.inr (Or.inr (Or.inr (Or.inl ⟨by omega, by omega, zW, st.2.2.2.1⟩))) | exact Or.inr (Or.inr (Or.inr (Or.inr (Or.inl ⟨by omega, by omega, zJ, fun _ => st.2.2.1, st.2.2.2.1⟩)))) | exact Or.inr (Or.inr (Or.inr (Or.inr (Or.inr (Or.inl ⟨by omega, by omega, zS, st.2.2.1, st.2.2.2.1⟩))))) | exact ⟨_, _, _, Or.inl ⟨by omega, zF, rfl, rfl⟩⟩ | exact ⟨_, _, _, Or.inr (Or.inr (Or.inl ⟨by omega, by omega, zC, rfl, rfl⟩))⟩ | exact ⟨_, _, _, Or.inr (Or.inr (Or.inr (Or.inl ⟨by omega, by omega, zW, rfl⟩)))⟩ | exact ⟨_, _, _, Or.inr (Or.inr (Or.inr (Or.inr (Or.inl ⟨by omega, by omega, zJ, fun q => absurd q (by omega), rfl⟩))))⟩ | exact ⟨_, _, _, Or.inr (Or.inr (Or.inr (Or.inr (Or.inr (Or.inl ⟨by omega, by omega, zS, rfl, rfl⟩)))))⟩ | exact ⟨0, 0, 0, Or.inr (Or.inl ⟨by omega, by omega, by omega⟩)⟩ | exact ⟨0, 0, 0, Or.inr (Or.inr (Or.inr (Or.inr (Or.inr (Or.inr ⟨by omega, by omega, by omega, by omega, by omega, by omega⟩)))))⟩ | (exfalso; omega) | omega) (by first | exact Lo_h92 | exact ⟨st.1, st.2.1, st.2.2.2.2⟩ | exact Or.inl ⟨by omega, zF, st.2.2.1, st.2.2.2.1⟩ | exact Or.inr (Or.inr (Or.inl ⟨by omega, by omega, zC, st.2.2.1, st.2.2.2.1⟩)) | exact Or.inr (Or.inr (Or.inr (Or.inl ⟨by omega, by omega, zW, st.2.2.2.1⟩))) | exact Or.inr (Or.inr (Or.inr (Or.inr (Or.inl ⟨by omega, by omega, zJ, fun _ => st.2.2.1, st.2.2.2.1⟩)))) | exact Or.inr (Or.inr (Or.inr (Or.inr (Or.inr (Or.inl ⟨by omega, by omega, zS, st.2.2.1, st.2.2.2.1⟩))))) | exact ⟨_, _, _, Or.inl ⟨by omega, zF, rfl, rfl⟩⟩ | exact ⟨_, _, _, Or.inr (Or.inr (Or.inl ⟨by omega, by omega, zC, rfl, rfl⟩))⟩ | exact ⟨_, _, _, Or.inr (Or.inr (Or.inr (Or.inl ⟨by omega, by omega, zW, rfl⟩)))⟩ | exact ⟨_, _, _, Or.inr (Or.inr (Or.inr (Or.inr (Or.inl ⟨by omega, by omega, zJ, fun q => absurd q (by omega), rfl⟩))))⟩ | exact ⟨_, _, _, Or.inr (Or.inr (Or.inr (Or.inr (Or.inr (Or.inl ⟨by omega, by omega, zS, rfl, rfl⟩)))))⟩ | exact ⟨0, 0, 0, Or.inr (Or.inl ⟨by omega, by omega, by omega⟩)⟩ | exact ⟨0, 0, 0, Or.inr (Or.inr (Or.inr (Or.inr (Or.inr (Or.inr ⟨by omega, by omega, by omega, by omega, by omega, by omega⟩)))))⟩ | (exfalso; omega) | omega) Ln_h92 Sp_h92 Al_h92 Cu_h92)
        ·
          show wp l rho (d + 7) 49 27 [(2, 82), (0, 0), (0, 0), (0, 0), (9, 0), (9, 0)] [(0, 1)] h Q
          rw [show wc ((7 : Nat) : Int) = 527412 from by decide] at xp21
          refine w_istore (ls' := [(2, 82), (0, 0), (0, 0), (0, 0), (0, 1), (9, 0)]) gz_49_27 gm_49 rfl rfl rfl ?_
          refine w_aload_n gz_49_29 rfl ?_
          refine w_ldcS gz_49_30 (by decide) ?_
          refine w_inv (k := 1) (as := [(3, ((8 : Nat) : Int))]) (r := []) (x := 82) (ls0 := [(2, 82), (3, ((8 : Nat) : Int)), (9, 0)]) gz_49_32 gm_41 rfl is_82 rd_5 rfl rfl rfl rfl rfl (c_Reader_isWord9_f0 (d := (d + 2)) (x1 := ((8 : Nat) : Int)) (by decide) (cf.trans (by omega)) n_Cu (fun w94 xp95 => ?_) (fun w96 w97 xp98 => ?_))
          ·
            show wp l rho (d + 7) 49 35 [(2, 82), (0, 0), (0, 0), (0, 0), (0, 1), (9, 0)] [(0, 0)] h Q
            rw [show wc ((8 : Nat) : Int) = 26801 from by decide] at xp95
            refine w_istore (ls' := [(2, 82), (0, 0), (0, 0), (0, 0), (0, 1), (0, 0)]) gz_49_35 gm_49 rfl rfl rfl ?_
            refine w_iload_n gz_49_37 rfl ?_
            refine w_ifne (t := 65) gz_49_38 rfl (fun u99 => by exfalso; omega) (fun u99 => ?_)
            refine w_iload_n gz_49_41 rfl ?_
            refine w_ifne (t := 65) gz_49_42 rfl (fun u100 => by exfalso; omega) (fun u100 => ?_)
            refine w_iload_n gz_49_45 rfl ?_
            refine w_ifne (t := 65) gz_49_46 rfl (fun u101 => by exfalso; omega) (fun u101 => ?_)
            refine w_iload gz_49_49 rfl ?_
            refine w_ifne (t := 65) gz_49_51 rfl (fun u102 => ?_) (fun u102 => by exfalso; omega)
            refine w_iload_n gz_49_65 rfl ?_
            refine w_ifne (t := 87) gz_49_66 rfl (fun u103 => by exfalso; omega) (fun u103 => ?_)
            refine w_aload_n gz_49_69 rfl ?_
            refine v_getR (j := 2) gz_49_70 rfl is_82 rd_5 rfl (fun v104 ev104 tv104 => ?_)
            have sE73 : v104 = h 82 2 := by first | assumption | omega
            refine v_getI (j := 9) gz_49_73 rfl tv104 rd_4 rfl (fun v105 ev105 pv105 qv105 => ?_)
            have c76 : v105 = h (h 82 2) 9 := by rw [← sE73]; omega
            refine w_bipush gz_49_76 (by decide) ?_
            refine w_iclt (t := 87) gz_49_78 rfl (fun u106 => ?_) (fun u106 => ?_)
            ·
              have St5_ht107 : St5 h := ⟨by subst_vars; omega, by subst_vars; omega⟩
              refine w_aload_n gz_49_87 rfl ?_
              refine w_inv (k := 2) (as := []) (r := []) (x := 82) (ls0 := [(2, 82), (9, 0), (9, 0)]) gz_49_88 gm_37 rfl is_82 rd_5 rfl rfl rfl rfl rfl (c_Reader_nextToken9_f0 (d := (d + 5))  (cf.trans (by omega)) n_Al (fun h108 frh108 w109 w110 w111 xp112 xp113 Al_h108t114 Cu_h108t115 => ?_))
              have gh108 : my_fr [(4, 4), (4, 5), (4, 6), (4, 7), (4, 8), (4, 9), (5, 5), (5, 6), (5, 7), (5, 8), (5, 9), (32, -1), (33, -1), (34, -1), (35, -1), (36, -1), (37, -1), (38, -1), (39, -1)] h h108 := my_fr.tr my_fr.rf (frh108.mo rfl)
              have Ln_h108 : Ln h108 := Ln_ag (my_ag.fr frh108 rfl) n_Ln
              have Sp_h108 : Sp h108 wv := Sp_ag (my_ag.fr frh108 rfl) hwv n_Ln n_Sp
              have Lo_h108 : Lo h h108 := Lo_ag (my_ag.fr frh108 rfl) n_Ln (Lo_rf)
              have St5_h108 : St5 h108 := St5_ag (my_ag.fr frh108 rfl) n_Ln St5_ht107
              show wp l rho (d + 7) 49 91 [(2, 82), (0, 0), (0, 0), (0, 0), (0, 1), (0, 0)] [] h108 Q
              have xc116 := xp112 n_Cu
              have ck117 := Cu_s Cu_h108t115
              rw [show cs h108 = cs h from cs_eq (fun j => my_fr.at gh108 is_92 rfl) (my_fr.at gh108 is_82 rfl)] at ck117
              rw [show h108 82 7 = (sN (cs h) (h 82 7)) from xc116] at ck117
              refine w_iload_n gz_49_91 rfl ?_
              refine w_ifeq (t := 102) gz_49_92 rfl (fun u118 => ?_) (fun u118 => by exfalso; omega)
              refine w_iload_n gz_49_102 rfl ?_
              refine w_ifeq (t := 113) gz_49_103 rfl (fun u119 => ?_) (fun u119 => by exfalso; omega)
              refine w_iload_n gz_49_113 rfl ?_
              refine w_ifeq (t := 124) gz_49_114 rfl (fun u120 => ?_) (fun u120 => by exfalso; omega)
              refine w_iload gz_49_124 rfl ?_
              refine w_ifeq (t := 136) gz_49_126 rfl (fun u121 => by exfalso; omega) (fun u121 => ?_)
              refine w_aload_n gz_49_129 rfl ?_
              refine w_inv (k := 3) (as := []) (r := []) (x := 82) (ls0 := [(2, 82), (9, 0), (9, 0), (9, 0)]) gz_49_130 gm_60 rfl is_82 rd_5 rfl rfl rfl rfl rfl (c_Reader_readJoin9_f0 (d := d)  (wv := wv) (((my_fr.at frh108 is_82 rfl).trans cf).trans (by omega)) (by first | assumption | omega) (by first | assumption | omega) Ln_h108 Sp_h108 St5_h108 Al_h108t114 Cu_h108t115 (fun h122 frh122 w123 w124 xp125 xp126 Ln_h122t127 Sp_h122t128 Al_h122t129 Cu_h122t130 => ?_) (fun h131 frh131 w132 xp133 xp134 xp135 Ln_h131t136 Sp_h131t137 Al_h131t138 Cu_h131t139 => ?_))
              ·
                have gh122 : my_fr [(4, 4), (4, 5), (4, 6), (4, 7), (4, 8), (4, 9), (5, 5), (5, 6), (5, 7), (5, 8), (5, 9), (32, -1), (33, -1), (34, -1), (35, -1), (36, -1), (37, -1), (38, -1), (39, -1)] h h122 := my_fr.tr gh108 (frh122.mo rfl)
                show wp l rho (d + 7) 49 133 [(2, 82), (0, 0), (0, 0), (0, 0), (0, 1), (0, 0)] [] h122 Q
                have tE140 : cs h108 = cs h := cs_eq (fun j => my_fr.at gh108 is_92 rfl) (my_fr.at gh108 is_82 rfl)
                rw [tE140] at xp125
                have ps141 : h108 82 7 = (sN (cs h) (h 82 7)) := xc116
                rw [ps141] at xp125
                have ck142 := Cu_s Cu_h122t130
                rw [show cs h122 = cs h from cs_eq (fun j => my_fr.at gh122 is_92 rfl) (my_fr.at gh122 is_82 rfl)] at ck142
                have q2 : h108 82 2 = h 82 2 := my_fr.at frh108 is_82 rfl
                have q11 : h108 (h 82 2) 1 = h (h 82 2) 1 := my_fr.at frh108 n_Ln.2.2.2.1 rfl
                have q13 : h108 (h 82 2) 3 = h (h 82 2) 3 := my_fr.at frh108 n_Ln.2.2.2.1 rfl
                have q14 : h108 (h 82 2) 4 = h (h 82 2) 4 := my_fr.at frh108 n_Ln.2.2.2.1 rfl
                have q19 : h108 (h 82 2) 9 = h (h 82 2) 9 := my_fr.at frh108 n_Ln.2.2.2.1 rfl
                have qc : h108 2 = h 2 := funext (fun j => my_fr.at frh108 is_2 rfl)
                have zJ := xp125
                simp only [q2, q11, q13, q14, q19, qc] at zJ
                have Lo_h122t143 : Lo h h122 := Lo_tr Lo_h108 xp126
                refine w_goto (t := 140) gz_49_133 rfl ?_
                have psR : h122 82 7 = h122 82 7 := (rfl : h122 82 7 = h122 82 7)
                have npsR : cs h122 = cs h := cs_eq (fun j => my_fr.at gh122 is_92 rfl) (my_fr.at gh122 is_82 rfl)
                have c144 := (rfl : h122 82 9 = h122 82 9)
                exact w_vret gz_49_140 gm_49 (k0 h122 (gh122) (by omega) (by omega) (by first | exact Lo_h122t143 | exact ⟨st.1, st.2.1, st.2.2.2.2⟩ | exact Or.inl ⟨by omega, zF, st.2.2.1, st.2.2.2.1⟩ | exact Or.inr (Or.inr (Or.inl ⟨by omega, by omega, zC, st.2.2.1, st.2.2.2.1⟩)) | exact Or.inr (Or.inr (Or.inr (Or.inl ⟨by omega, by omega, zW, st.2.2.2.1⟩))) | exact Or.inr (Or.inr (Or.inr (Or.inr (Or.inl ⟨by omega, by omega, zJ, fun _ => st.2.2.1, st.2.2.2.1⟩)))) | exact Or.inr (Or.inr (Or.inr (Or.inr (Or.inr (Or.inl ⟨by omega, by omega, zS, st.2.2.1, st.2.2.2.1⟩))))) | exact ⟨_, _, _, Or.inl ⟨by omega, zF, rfl, rfl⟩⟩ | exact ⟨_, _, _, Or.inr (Or.inr (Or.inl ⟨by omega, by omega, zC, rfl, rfl⟩))⟩ | exact ⟨_, _, _, Or.inr (Or.inr (Or.inr (Or.inl ⟨by omega, by omega, zW, rfl⟩)))⟩ | exact ⟨_, _, _, Or.inr (Or.inr (Or.inr (Or.inr (Or.inl ⟨by omega, by omega, zJ, fun q => absurd q (by omega), rfl⟩))))⟩ | exact ⟨_, _, _, Or.inr (Or.inr (Or.inr (Or.inr (Or.inr (Or.inl ⟨by omega, by omega, zS, rfl, rfl⟩)))))⟩ | exact ⟨0, 0, 0, Or.inr (Or.inl ⟨by omega, by omega, by omega⟩)⟩ | exact ⟨0, 0, 0, Or.inr (Or.inr (Or.inr (Or.inr (Or.inr (Or.inr ⟨by omega, by omega, by omega, by omega, by omega, by omega⟩)))))⟩ | (exfalso; omega) | omega) (by first | exact Lo_h122t143 | exact ⟨st.1, st.2.1, st.2.2.2.2⟩ | exact Or.inl ⟨by omega, zF, st.2.2.1, st.2.2.2.1⟩ | exact Or.inr (Or.inr (Or.inl ⟨by omega, by omega, zC, st.2.2.1, st.2.2.2.1⟩)) | exact Or.inr (Or.inr (Or.inr (Or.inl ⟨by omega, by omega, zW, st.2.2.2.1⟩))) | exact Or.inr (Or.inr (Or.inr (Or.inr (Or.inl ⟨by omega, by omega, zJ, fun _ => st.2.2.1, st.2.2.2.1⟩)))) | exact Or.inr (Or.inr (Or.inr (Or.inr (Or.inr (Or.inl ⟨by omega, by omega, zS, st.2.2.1, st.2.2.2.1⟩))))) | exact ⟨_, _, _, Or.inl ⟨by omega, zF, rfl, rfl⟩⟩ | exact ⟨_, _, _, Or.inr (Or.inr (Or.inl ⟨by omega, by omega, zC, rfl, rfl⟩))⟩ | exact ⟨_, _, _, Or.inr (Or.inr (Or.inr (Or.inl ⟨by omega, by omega, zW, rfl⟩)))⟩ | exact ⟨_, _, _, Or.inr (Or.inr (Or.inr (Or.inr (Or.inl ⟨by omega, by omega, zJ, fun q => absurd q (by omega), rfl⟩))))⟩ | exact ⟨_, _, _, Or.inr (Or.inr (Or.inr (Or.inr (Or.inr (Or.inl ⟨by omega, by omega, zS, rfl, rfl⟩)))))⟩ | exact ⟨0, 0, 0, Or.inr (Or.inl ⟨by omega, by omega, by omega⟩)⟩ | exact ⟨0, 0, 0, Or.inr (Or.inr (Or.inr (Or.inr (Or.inr (Or.inr ⟨by omega, by omega, by omega, by omega, by omega, by omega⟩)))))⟩ | (exfalso; omega) | omega) Ln_h122t127 Sp_h122t128 Al_h122t129 Cu_h122t130)
              ·
                have gh131 : my_fr [(4, 4), (4, 5), (4, 6), (4, 7), (4, 8), (4, 9), (5, 5), (5, 6), (5, 7), (5, 8), (5, 9), (32, -1), (33, -1), (34, -1), (35, -1), (36, -1), (37, -1), (38, -1), (39, -1)] h h131 := my_fr.tr gh108 (frh131.mo rfl)
                show wp l rho (d + 7) 49 133 [(2, 82), (0, 0), (0, 0), (0, 0), (0, 1), (0, 0)] [] h131 Q
                have tE145 : cs h108 = cs h := cs_eq (fun j => my_fr.at gh108 is_92 rfl) (my_fr.at gh108 is_82 rfl)
                rw [tE145] at xp133
                have ps146 : h108 82 7 = (sN (cs h) (h 82 7)) := xc116
                rw [ps146] at xp133
                rw [tE145] at xp134
                rw [ps146] at xp134
                have ck147 := Cu_s Cu_h131t139
                rw [show cs h131 = cs h from cs_eq (fun j => my_fr.at gh131 is_92 rfl) (my_fr.at gh131 is_82 rfl)] at ck147
                have q2 : h108 82 2 = h 82 2 := my_fr.at frh108 is_82 rfl
                have q11 : h108 (h 82 2) 1 = h (h 82 2) 1 := my_fr.at frh108 n_Ln.2.2.2.1 rfl
                have q13 : h108 (h 82 2) 3 = h (h 82 2) 3 := my_fr.at frh108 n_Ln.2.2.2.1 rfl
                have q14 : h108 (h 82 2) 4 = h (h 82 2) 4 := my_fr.at frh108 n_Ln.2.2.2.1 rfl
                have q19 : h108 (h 82 2) 9 = h (h 82 2) 9 := my_fr.at frh108 n_Ln.2.2.2.1 rfl
                have qc : h108 2 = h 2 := funext (fun j => my_fr.at frh108 is_2 rfl)
                have zJ := xp133
                simp only [q2, q11, q13, q14, q19, qc] at zJ
                have st := xp134
                unfold Std at st
                simp only [q2, q11, q13, q14, q19, qc] at st
                have Lo_h131t148 : Lo h h131 := Lo_tr Lo_h108 xp135
                refine w_goto (t := 140) gz_49_133 rfl ?_
                have psR : h131 82 7 = h131 82 7 := (rfl : h131 82 7 = h131 82 7)
                have npsR : cs h131 = cs h := cs_eq (fun j => my_fr.at gh131 is_92 rfl) (my_fr.at gh131 is_82 rfl)
                have c149 := w132
                exact w_vret gz_49_140 gm_49 (k1 h131 (gh131) (by omega) (by first | exact Lo_h131t148 | exact ⟨st.1, st.2.1, st.2.2.2.2⟩ | exact Or.inl ⟨by omega, zF, st.2.2.1, st.2.2.2.1⟩ | exact Or.inr (Or.inr (Or.inl ⟨by omega, by omega, zC, st.2.2.1, st.2.2.2.1⟩)) | exact Or.inr (Or.inr (Or.inr (Or.inl ⟨by omega, by omega, zW, st.2.2.2.1⟩))) | exact Or.inr (Or.inr (Or.inr (Or.inr (Or.inl ⟨by omega, by omega, zJ, fun _ => st.2.2.1, st.2.2.2.1⟩)))) | exact Or.inr (Or.inr (Or.inr (Or.inr (Or.inr (Or.inl ⟨by omega, by omega, zS, st.2.2.1, st.2.2.2.1⟩))))) | exact ⟨_, _, _, Or.inl ⟨by omega, zF, rfl, rfl⟩⟩ | exact ⟨_, _, _, Or.inr (Or.inr (Or.inl ⟨by omega, by omega, zC, rfl, rfl⟩))⟩ | exact ⟨_, _, _, Or.inr (Or.inr (Or.inr (Or.inl ⟨by omega, by omega, zW, rfl⟩)))⟩ | exact ⟨_, _, _, Or.inr (Or.inr (Or.inr (Or.inr (Or.inl ⟨by omega, by omega, zJ, fun q => absurd q (by omega), rfl⟩))))⟩ | exact ⟨_, _, _, Or.inr (Or.inr (Or.inr (Or.inr (Or.inr (Or.inl ⟨by omega, by omega, zS, rfl, rfl⟩)))))⟩ | exact ⟨0, 0, 0, Or.inr (Or.inl ⟨by omega, by omega, by omega⟩)⟩ | exact ⟨0, 0, 0, Or.inr (Or.inr (Or.inr (Or.inr (Or.inr (Or.inr ⟨by omega, by omega, by omega, by omega, by omega, by omega⟩)))))⟩ | (exfalso; omega) | omega) (by first | exact Lo_h131t148 | exact ⟨st.1, st.2.1, st.2.2.2.2⟩ | exact Or.inl ⟨by omega, zF, st.2.2.1, st.2.2.2.1⟩ | exact Or.inr (Or.inr (Or.inl ⟨by omega, by omega, zC, st.2.2.1, st.2.2.2.1⟩)) | exact Or.inr (Or.inr (Or.inr (Or.inl ⟨by omega, by omega, zW, st.2.2.2.1⟩))) | exact Or.inr (Or.inr (Or.inr (Or.inr (Or.inl ⟨by omega, by omega, zJ, fun _ => st.2.2.1, st.2.2.2.1⟩)))) | exact Or.inr (Or.inr (Or.inr (Or.inr (Or.inr (Or.inl ⟨by omega, by omega, zS, st.2.2.1, st.2.2.2.1⟩))))) | exact ⟨_, _, _, Or.inl ⟨by omega, zF, rfl, rfl⟩⟩ | exact ⟨_, _, _, Or.inr (Or.inr (Or.inl ⟨by omega, by omega, zC, rfl, rfl⟩))⟩ | exact ⟨_, _, _, Or.inr (Or.inr (Or.inr (Or.inl ⟨by omega, by omega, zW, rfl⟩)))⟩ | exact ⟨_, _, _, Or.inr (Or.inr (Or.inr (Or.inr (Or.inl ⟨by omega, by omega, zJ, fun q => absurd q (by omega), rfl⟩))))⟩ | exact ⟨_, _, _, Or.inr (Or.inr (Or.inr (Or.inr (Or.inr (Or.inl ⟨by omega, by omega, zS, rfl, rfl⟩)))))⟩ | exact ⟨0, 0, 0, Or.inr (Or.inl ⟨by omega, by omega, by omega⟩)⟩ | exact ⟨0, 0, 0, Or.inr (Or.inr (Or.inr (Or.inr (Or.inr (Or.inr ⟨by omega, by omega, by omega, by omega, by omega, by omega⟩)))))⟩ | (exfalso; omega) | omega) (by first | exact Lo_h131t148 | exact ⟨st.1, st.2.1, st.2.2.2.2⟩ | exact Or.inl ⟨by omega, zF, st.2.2.1, st.2.2.2.1⟩ | exact Or.inr (Or.inr (Or.inl ⟨by omega, by omega, zC, st.2.2.1, st.2.2.2.1⟩)) | exact Or.inr (Or.inr (Or.inr (Or.inl ⟨by omega, by omega, zW, st.2.2.2.1⟩))) | exact Or.inr (Or.inr (Or.inr (Or.inr (Or.inl ⟨by omega, by omega, zJ, fun _ => st.2.2.1, st.2.2.2.1⟩)))) | exact Or.inr (Or.inr (Or.inr (Or.inr (Or.inr (Or.inl ⟨by omega, by omega, zS, st.2.2.1, st.2.2.2.1⟩))))) | exact ⟨_, _, _, Or.inl ⟨by omega, zF, rfl, rfl⟩⟩ | exact ⟨_, _, _, Or.inr (Or.inr (Or.inl ⟨by omega, by omega, zC, rfl, rfl⟩))⟩ | exact ⟨_, _, _, Or.inr (Or.inr (Or.inr (Or.inl ⟨by omega, by omega, zW, rfl⟩)))⟩ | exact ⟨_, _, _, Or.inr (Or.inr (Or.inr (Or.inr (Or.inl ⟨by omega, by omega, zJ, fun q => absurd q (by omega), rfl⟩))))⟩ | exact ⟨_, _, _, Or.inr (Or.inr (Or.inr (Or.inr (Or.inr (Or.inl ⟨by omega, by omega, zS, rfl, rfl⟩)))))⟩ | exact ⟨0, 0, 0, Or.inr (Or.inl ⟨by omega, by omega, by omega⟩)⟩ | exact ⟨0, 0, 0, Or.inr (Or.inr (Or.inr (Or.inr (Or.inr (Or.inr ⟨by omega, by omega, by omega, by omega, by omega, by omega⟩)))))⟩ | (exfalso; omega) | omega) Ln_h131t136 Sp_h131t137 Al_h131t138 Cu_h131t139)
            ·
              refine w_aload_n gz_49_81 rfl ?_
              refine w_iconst gz_49_82 (by decide) ?_
              refine w_inv (k := 0) (as := [(0, 5)]) (r := []) (x := 82) (ls0 := [(2, 82), (0, 5)]) gz_49_83 gm_42 rfl is_82 rd_5 rfl rfl rfl rfl rfl ?_
              refine w_aload_n gz_42_0 rfl ?_
              refine v_getI (j := 9) gz_42_1 rfl is_82 rd_5 rfl (fun v150 ev150 pv150 qv150 => ?_)
              have zv150 := ev150.trans cf
              refine w_ifne (t := 20) gz_42_4 rfl (fun u151 => by exfalso; omega) (fun u151 => ?_)
              refine w_aload_n gz_42_7 rfl ?_
              refine w_iload_n gz_42_8 rfl ?_
              refine w_bipush gz_42_9 (by decide) ?_
              refine w_aload_n gz_42_11 rfl ?_
              refine v_getI (j := 7) gz_42_12 rfl is_82 rd_5 rfl (fun v152 ev152 pv152 qv152 => ?_)
              refine w_imul gz_42_15 ⟨by omega, by omega⟩ ?_
              refine w_iadd gz_42_16 ⟨by omega, by omega⟩ ?_
              refine v_putI (j := 9) gz_42_17 rfl is_82 rd_5 rfl (by omega) (by omega) rfl (fun h153 fh153 => ?_)
              have gh153 : my_fr [(4, 4), (4, 5), (4, 6), (4, 7), (4, 8), (4, 9), (5, 5), (5, 6), (5, 7), (5, 8), (5, 9), (32, -1), (33, -1), (34, -1), (35, -1), (36, -1), (37, -1), (38, -1), (39, -1)] h h153 := my_fr.up my_fr.rf is_82 fh153 rfl
              have Ln_h153 : Ln h153 := Ln_ag (my_ag.up fh153 is_82 rfl) n_Ln
              have Sp_h153 : Sp h153 wv := Sp_ag (my_ag.up fh153 is_82 rfl) hwv n_Ln n_Sp
              have Al_h153 : Al h153 := Al_ag (my_ag.up fh153 is_82 rfl) n_Al
              have Cu_h153 : Cu h153 := Cu_ag (my_ag.up fh153 is_82 rfl) n_Cu
              have Lo_h153 : Lo h h153 := Lo_ag (my_ag.up fh153 is_82 rfl) n_Ln (Lo_rf)
              refine w_vret gz_42_20 gm_42 ?_
              show wp l rho (d + 7) 49 86 [(2, 82), (0, 0), (0, 0), (0, 0), (0, 1), (0, 0)] [] h153 Q
              have psR : h153 82 7 = h 82 7 := ((my_up_fld fh153 (by decide)).trans (rfl : h 82 7 = h 82 7))
              have npsR : cs h153 = cs h := cs_eq (fun j => my_fr.at gh153 is_92 rfl) (my_fr.at gh153 is_82 rfl)
              have c154 := (my_up_self fh153)
              exact w_vret gz_49_86 gm_49 (k0 h153 (gh153) (by omega) (by omega) (by first | exact Lo_h153 | exact ⟨st.1, st.2.1, st.2.2.2.2⟩ | exact Or.inl ⟨by omega, zF, st.2.2.1, st.2.2.2.1⟩ | exact Or.inr (Or.inr (Or.inl ⟨by omega, by omega, zC, st.2.2.1, st.2.2.2.1⟩)) | exact Or.inr (Or.inr (Or.inr (Or.inl ⟨by omega, by omega, zW, st.2.2.2.1⟩))) | exact Or.inr (Or.inr (Or.inr (Or.inr (Or.inl ⟨by omega, by omega, zJ, fun _ => st.2.2.1, st.2.2.2.1⟩)))) | exact Or.inr (Or.inr (Or.inr (Or.inr (Or.inr (Or.inl ⟨by omega, by omega, zS, st.2.2.1, st.2.2.2.1⟩))))) | exact ⟨_, _, _, Or.inl ⟨by omega, zF, rfl, rfl⟩⟩ | exact ⟨_, _, _, Or.inr (Or.inr (Or.inl ⟨by omega, by omega, zC, rfl, rfl⟩))⟩ | exact ⟨_, _, _, Or.inr (Or.inr (Or.inr (Or.inl ⟨by omega, by omega, zW, rfl⟩)))⟩ | exact ⟨_, _, _, Or.inr (Or.inr (Or.inr (Or.inr (Or.inl ⟨by omega, by omega, zJ, fun q => absurd q (by omega), rfl⟩))))⟩ | exact ⟨_, _, _, Or.inr (Or.inr (Or.inr (Or.inr (Or.inr (Or.inl ⟨by omega, by omega, zS, rfl, rfl⟩)))))⟩ | exact ⟨0, 0, 0, Or.inr (Or.inl ⟨by omega, by omega, by omega⟩)⟩ | exact ⟨0, 0, 0, Or.inr (Or.inr (Or.inr (Or.inr (Or.inr (Or.inr ⟨by omega, by omega, by omega, by omega, by omega, by omega⟩)))))⟩ | (exfalso; omega) | omega) (by first | exact Lo_h153 | exact ⟨st.1, st.2.1, st.2.2.2.2⟩ | exact Or.inl ⟨by omega, zF, st.2.2.1, st.2.2.2.1⟩ | exact Or.inr (Or.inr (Or.inl ⟨by omega, by omega, zC, st.2.2.1, st.2.2.2.1⟩)) | exact Or.inr (Or.inr (Or.inr (Or.inl ⟨by omega, by omega, zW, st.2.2.2.1⟩))) | exact Or.inr (Or.inr (Or.inr (Or.inr (Or.inl ⟨by omega, by omega, zJ, fun _ => st.2.2.1, st.2.2.2.1⟩)))) | exact Or.inr (Or.inr (Or.inr (Or.inr (Or.inr (Or.inl ⟨by omega, by omega, zS, st.2.2.1, st.2.2.2.1⟩))))) | exact ⟨_, _, _, Or.inl ⟨by omega, zF, rfl, rfl⟩⟩ | exact ⟨_, _, _, Or.inr (Or.inr (Or.inl ⟨by omega, by omega, zC, rfl, rfl⟩))⟩ | exact ⟨_, _, _, Or.inr (Or.inr (Or.inr (Or.inl ⟨by omega, by omega, zW, rfl⟩)))⟩ | exact ⟨_, _, _, Or.inr (Or.inr (Or.inr (Or.inr (Or.inl ⟨by omega, by omega, zJ, fun q => absurd q (by omega), rfl⟩))))⟩ | exact ⟨_, _, _, Or.inr (Or.inr (Or.inr (Or.inr (Or.inr (Or.inl ⟨by omega, by omega, zS, rfl, rfl⟩)))))⟩ | exact ⟨0, 0, 0, Or.inr (Or.inl ⟨by omega, by omega, by omega⟩)⟩ | exact ⟨0, 0, 0, Or.inr (Or.inr (Or.inr (Or.inr (Or.inr (Or.inr ⟨by omega, by omega, by omega, by omega, by omega, by omega⟩)))))⟩ | (exfalso; omega) | omega) Ln_h153 Sp_h153 Al_h153 Cu_h153)
          ·
            show wp l rho (d + 7) 49 35 [(2, 82), (0, 0), (0, 0), (0, 0), (0, 1), (9, 0)] [(0, 1)] h Q
            rw [show wc ((8 : Nat) : Int) = 26801 from by decide] at xp98
            refine w_istore (ls' := [(2, 82), (0, 0), (0, 0), (0, 0), (0, 1), (0, 1)]) gz_49_35 gm_49 rfl rfl rfl ?_
            refine w_iload_n gz_49_37 rfl ?_
            refine w_ifne (t := 65) gz_49_38 rfl (fun u155 => by exfalso; omega) (fun u155 => ?_)
            refine w_iload_n gz_49_41 rfl ?_
            refine w_ifne (t := 65) gz_49_42 rfl (fun u156 => by exfalso; omega) (fun u156 => ?_)
            refine w_iload_n gz_49_45 rfl ?_
            refine w_ifne (t := 65) gz_49_46 rfl (fun u157 => by exfalso; omega) (fun u157 => ?_)
            refine w_iload gz_49_49 rfl ?_
            refine w_ifne (t := 65) gz_49_51 rfl (fun u158 => ?_) (fun u158 => by exfalso; omega)
            refine w_iload_n gz_49_65 rfl ?_
            refine w_ifne (t := 87) gz_49_66 rfl (fun u159 => by exfalso; omega) (fun u159 => ?_)
            refine w_aload_n gz_49_69 rfl ?_
            refine v_getR (j := 2) gz_49_70 rfl is_82 rd_5 rfl (fun v160 ev160 tv160 => ?_)
            have sE73 : v160 = h 82 2 := by first | assumption | omega
            refine v_getI (j := 9) gz_49_73 rfl tv160 rd_4 rfl (fun v161 ev161 pv161 qv161 => ?_)
            have c76 : v161 = h (h 82 2) 9 := by rw [← sE73]; omega
            refine w_bipush gz_49_76 (by decide) ?_
            refine w_iclt (t := 87) gz_49_78 rfl (fun u162 => ?_) (fun u162 => ?_)
            ·
              have St5_ht163 : St5 h := ⟨by subst_vars; omega, by subst_vars; omega⟩
              refine w_aload_n gz_49_87 rfl ?_
              refine w_inv (k := 2) (as := []) (r := []) (x := 82) (ls0 := [(2, 82), (9, 0), (9, 0)]) gz_49_88 gm_37 rfl is_82 rd_5 rfl rfl rfl rfl rfl (c_Reader_nextToken9_f0 (d := (d + 5))  (cf.trans (by omega)) n_Al (fun h164 frh164 w165 w166 w167 xp168 xp169 Al_h164t170 Cu_h164t171 => ?_))
              have gh164 : my_fr [(4, 4), (4, 5), (4, 6), (4, 7), (4, 8), (4, 9), (5, 5), (5, 6), (5, 7), (5, 8), (5, 9), (32, -1), (33, -1), (34, -1), (35, -1), (36, -1), (37, -1), (38, -1), (39, -1)] h h164 := my_fr.tr my_fr.rf (frh164.mo rfl)
              have Ln_h164 : Ln h164 := Ln_ag (my_ag.fr frh164 rfl) n_Ln
              have Sp_h164 : Sp h164 wv := Sp_ag (my_ag.fr frh164 rfl) hwv n_Ln n_Sp
              have Lo_h164 : Lo h h164 := Lo_ag (my_ag.fr frh164 rfl) n_Ln (Lo_rf)
              have St5_h164 : St5 h164 := St5_ag (my_ag.fr frh164 rfl) n_Ln St5_ht163
              show wp l rho (d + 7) 49 91 [(2, 82), (0, 0), (0, 0), (0, 0), (0, 1), (0, 1)] [] h164 Q
              have xc172 := xp168 n_Cu
              have ck173 := Cu_s Cu_h164t171
              rw [show cs h164 = cs h from cs_eq (fun j => my_fr.at gh164 is_92 rfl) (my_fr.at gh164 is_82 rfl)] at ck173
              rw [show h164 82 7 = (sN (cs h) (h 82 7)) from xc172] at ck173
              refine w_iload_n gz_49_91 rfl ?_
              refine w_ifeq (t := 102) gz_49_92 rfl (fun u174 => ?_) (fun u174 => by exfalso; omega)
              refine w_iload_n gz_49_102 rfl ?_
              refine w_ifeq (t := 113) gz_49_103 rfl (fun u175 => ?_) (fun u175 => by exfalso; omega)
              refine w_iload_n gz_49_113 rfl ?_
              refine w_ifeq (t := 124) gz_49_114 rfl (fun u176 => ?_) (fun u176 => by exfalso; omega)
              refine w_iload gz_49_124 rfl ?_
              refine w_ifeq (t := 136) gz_49_126 rfl (fun u177 => by exfalso; omega) (fun u177 => ?_)
              refine w_aload_n gz_49_129 rfl ?_
              refine w_inv (k := 3) (as := []) (r := []) (x := 82) (ls0 := [(2, 82), (9, 0), (9, 0), (9, 0)]) gz_49_130 gm_60 rfl is_82 rd_5 rfl rfl rfl rfl rfl (c_Reader_readJoin9_f0 (d := d)  (wv := wv) (((my_fr.at frh164 is_82 rfl).trans cf).trans (by omega)) (by first | assumption | omega) (by first | assumption | omega) Ln_h164 Sp_h164 St5_h164 Al_h164t170 Cu_h164t171 (fun h178 frh178 w179 w180 xp181 xp182 Ln_h178t183 Sp_h178t184 Al_h178t185 Cu_h178t186 => ?_) (fun h187 frh187 w188 xp189 xp190 xp191 Ln_h187t192 Sp_h187t193 Al_h187t194 Cu_h187t195 => ?_))
              ·
                have gh178 : my_fr [(4, 4), (4, 5), (4, 6), (4, 7), (4, 8), (4, 9), (5, 5), (5, 6), (5, 7), (5, 8), (5, 9), (32, -1), (33, -1), (34, -1), (35, -1), (36, -1), (37, -1), (38, -1), (39, -1)] h h178 := my_fr.tr gh164 (frh178.mo rfl)
                show wp l rho (d + 7) 49 133 [(2, 82), (0, 0), (0, 0), (0, 0), (0, 1), (0, 1)] [] h178 Q
                have tE196 : cs h164 = cs h := cs_eq (fun j => my_fr.at gh164 is_92 rfl) (my_fr.at gh164 is_82 rfl)
                rw [tE196] at xp181
                have ps197 : h164 82 7 = (sN (cs h) (h 82 7)) := xc172
                rw [ps197] at xp181
                have ck198 := Cu_s Cu_h178t186
                rw [show cs h178 = cs h from cs_eq (fun j => my_fr.at gh178 is_92 rfl) (my_fr.at gh178 is_82 rfl)] at ck198
                have q2 : h164 82 2 = h 82 2 := my_fr.at frh164 is_82 rfl
                have q11 : h164 (h 82 2) 1 = h (h 82 2) 1 := my_fr.at frh164 n_Ln.2.2.2.1 rfl
                have q13 : h164 (h 82 2) 3 = h (h 82 2) 3 := my_fr.at frh164 n_Ln.2.2.2.1 rfl
                have q14 : h164 (h 82 2) 4 = h (h 82 2) 4 := my_fr.at frh164 n_Ln.2.2.2.1 rfl
                have q19 : h164 (h 82 2) 9 = h (h 82 2) 9 := my_fr.at frh164 n_Ln.2.2.2.1 rfl
                have qc : h164 2 = h 2 := funext (fun j => my_fr.at frh164 is_2 rfl)
                have zJ := xp181
                simp only [q2, q11, q13, q14, q19, qc] at zJ
                have Lo_h178t199 : Lo h h178 := Lo_tr Lo_h164 xp182
                refine w_goto (t := 140) gz_49_133 rfl ?_
                have psR : h178 82 7 = h178 82 7 := (rfl : h178 82 7 = h178 82 7)
                have npsR : cs h178 = cs h := cs_eq (fun j => my_fr.at gh178 is_92 rfl) (my_fr.at gh178 is_82 rfl)
                have c200 := (rfl : h178 82 9 = h178 82 9)
                exact w_vret gz_49_140 gm_49 (k0 h178 (gh178) (by omega) (by omega) (by first | exact Lo_h178t199 | exact ⟨st.1, st.2.1, st.2.2.2.2⟩ | exact Or.inl ⟨by omega, zF, st.2.2.1, st.2.2.2.1⟩ | exact Or.inr (Or.inr (Or.inl ⟨by omega, by omega, zC, st.2.2.1, st.2.2.2.1⟩)) | exact Or.inr (Or.inr (Or.inr (Or.inl ⟨by omega, by omega, zW, st.2.2.2.1⟩))) | exact Or.inr (Or.inr (Or.inr (Or.inr (Or.inl ⟨by omega, by omega, zJ, fun _ => st.2.2.1, st.2.2.2.1⟩)))) | exact Or.inr (Or.inr (Or.inr (Or.inr (Or.inr (Or.inl ⟨by omega, by omega, zS, st.2.2.1, st.2.2.2.1⟩))))) | exact ⟨_, _, _, Or.inl ⟨by omega, zF, rfl, rfl⟩⟩ | exact ⟨_, _, _, Or.inr (Or.inr (Or.inl ⟨by omega, by omega, zC, rfl, rfl⟩))⟩ | exact ⟨_, _, _, Or.inr (Or.inr (Or.inr (Or.inl ⟨by omega, by omega, zW, rfl⟩)))⟩ | exact ⟨_, _, _, Or.inr (Or.inr (Or.inr (Or.inr (Or.inl ⟨by omega, by omega, zJ, fun q => absurd q (by omega), rfl⟩))))⟩ | exact ⟨_, _, _, Or.inr (Or.inr (Or.inr (Or.inr (Or.inr (Or.inl ⟨by omega, by omega, zS, rfl, rfl⟩)))))⟩ | exact ⟨0, 0, 0, Or.inr (Or.inl ⟨by omega, by omega, by omega⟩)⟩ | exact ⟨0, 0, 0, Or.inr (Or.inr (Or.inr (Or.inr (Or.inr (Or.inr ⟨by omega, by omega, by omega, by omega, by omega, by omega⟩)))))⟩ | (exfalso; omega) | omega) (by first | exact Lo_h178t199 | exact ⟨st.1, st.2.1, st.2.2.2.2⟩ | exact Or.inl ⟨by omega, zF, st.2.2.1, st.2.2.2.1⟩ | exact Or.inr (Or.inr (Or.inl ⟨by omega, by omega, zC, st.2.2.1, st.2.2.2.1⟩)) | exact Or.inr (Or.inr (Or.inr (Or.inl ⟨by omega, by omega, zW, st.2.2.2.1⟩))) | exact Or.inr (Or.inr (Or.inr (Or.inr (Or.inl ⟨by omega, by omega, zJ, fun _ => st.2.2.1, st.2.2.2.1⟩)))) | exact Or.inr (Or.inr (Or.inr (Or.inr (Or.inr (Or.inl ⟨by omega, by omega, zS, st.2.2.1, st.2.2.2.1⟩))))) | exact ⟨_, _, _, Or.inl ⟨by omega, zF, rfl, rfl⟩⟩ | exact ⟨_, _, _, Or.inr (Or.inr (Or.inl ⟨by omega, by omega, zC, rfl, rfl⟩))⟩ | exact ⟨_, _, _, Or.inr (Or.inr (Or.inr (Or.inl ⟨by omega, by omega, zW, rfl⟩)))⟩ | exact ⟨_, _, _, Or.inr (Or.inr (Or.inr (Or.inr (Or.inl ⟨by omega, by omega, zJ, fun q => absurd q (by omega), rfl⟩))))⟩ | exact ⟨_, _, _, Or.inr (Or.inr (Or.inr (Or.inr (Or.inr (Or.inl ⟨by omega, by omega, zS, rfl, rfl⟩)))))⟩ | exact ⟨0, 0, 0, Or.inr (Or.inl ⟨by omega, by omega, by omega⟩)⟩ | exact ⟨0, 0, 0, Or.inr (Or.inr (Or.inr (Or.inr (Or.inr (Or.inr ⟨by omega, by omega, by omega, by omega, by omega, by omega⟩)))))⟩ | (exfalso; omega) | omega) Ln_h178t183 Sp_h178t184 Al_h178t185 Cu_h178t186)
              ·
                have gh187 : my_fr [(4, 4), (4, 5), (4, 6), (4, 7), (4, 8), (4, 9), (5, 5), (5, 6), (5, 7), (5, 8), (5, 9), (32, -1), (33, -1), (34, -1), (35, -1), (36, -1), (37, -1), (38, -1), (39, -1)] h h187 := my_fr.tr gh164 (frh187.mo rfl)
                show wp l rho (d + 7) 49 133 [(2, 82), (0, 0), (0, 0), (0, 0), (0, 1), (0, 1)] [] h187 Q
                have tE201 : cs h164 = cs h := cs_eq (fun j => my_fr.at gh164 is_92 rfl) (my_fr.at gh164 is_82 rfl)
                rw [tE201] at xp189
                have ps202 : h164 82 7 = (sN (cs h) (h 82 7)) := xc172
                rw [ps202] at xp189
                rw [tE201] at xp190
                rw [ps202] at xp190
                have ck203 := Cu_s Cu_h187t195
                rw [show cs h187 = cs h from cs_eq (fun j => my_fr.at gh187 is_92 rfl) (my_fr.at gh187 is_82 rfl)] at ck203
                have q2 : h164 82 2 = h 82 2 := my_fr.at frh164 is_82 rfl
                have q11 : h164 (h 82 2) 1 = h (h 82 2) 1 := my_fr.at frh164 n_Ln.2.2.2.1 rfl
                have q13 : h164 (h 82 2) 3 = h (h 82 2) 3 := my_fr.at frh164 n_Ln.2.2.2.1 rfl
                have q14 : h164 (h 82 2) 4 = h (h 82 2) 4 := my_fr.at frh164 n_Ln.2.2.2.1 rfl
                have q19 : h164 (h 82 2) 9 = h (h 82 2) 9 := my_fr.at frh164 n_Ln.2.2.2.1 rfl
                have qc : h164 2 = h 2 := funext (fun j => my_fr.at frh164 is_2 rfl)
                have zJ := xp189
                simp only [q2, q11, q13, q14, q19, qc] at zJ
                have st := xp190
                unfold Std at st
                simp only [q2, q11, q13, q14, q19, qc] at st
                have Lo_h187t204 : Lo h h187 := Lo_tr Lo_h164 xp191
                refine w_goto (t := 140) gz_49_133 rfl ?_
                have psR : h187 82 7 = h187 82 7 := (rfl : h187 82 7 = h187 82 7)
                have npsR : cs h187 = cs h := cs_eq (fun j => my_fr.at gh187 is_92 rfl) (my_fr.at gh187 is_82 rfl)
                have c205 := w188
                exact w_vret gz_49_140 gm_49 (k1 h187 (gh187) (by omega) (by first | exact Lo_h187t204 | exact ⟨st.1, st.2.1, st.2.2.2.2⟩ | exact Or.inl ⟨by omega, zF, st.2.2.1, st.2.2.2.1⟩ | exact Or.inr (Or.inr (Or.inl ⟨by omega, by omega, zC, st.2.2.1, st.2.2.2.1⟩)) | exact Or.inr (Or.inr (Or.inr (Or.inl ⟨by omega, by omega, zW, st.2.2.2.1⟩))) | exact Or.inr (Or.inr (Or.inr (Or.inr (Or.inl ⟨by omega, by omega, zJ, fun _ => st.2.2.1, st.2.2.2.1⟩)))) | exact Or.inr (Or.inr (Or.inr (Or.inr (Or.inr (Or.inl ⟨by omega, by omega, zS, st.2.2.1, st.2.2.2.1⟩))))) | exact ⟨_, _, _, Or.inl ⟨by omega, zF, rfl, rfl⟩⟩ | exact ⟨_, _, _, Or.inr (Or.inr (Or.inl ⟨by omega, by omega, zC, rfl, rfl⟩))⟩ | exact ⟨_, _, _, Or.inr (Or.inr (Or.inr (Or.inl ⟨by omega, by omega, zW, rfl⟩)))⟩ | exact ⟨_, _, _, Or.inr (Or.inr (Or.inr (Or.inr (Or.inl ⟨by omega, by omega, zJ, fun q => absurd q (by omega), rfl⟩))))⟩ | exact ⟨_, _, _, Or.inr (Or.inr (Or.inr (Or.inr (Or.inr (Or.inl ⟨by omega, by omega, zS, rfl, rfl⟩)))))⟩ | exact ⟨0, 0, 0, Or.inr (Or.inl ⟨by omega, by omega, by omega⟩)⟩ | exact ⟨0, 0, 0, Or.inr (Or.inr (Or.inr (Or.inr (Or.inr (Or.inr ⟨by omega, by omega, by omega, by omega, by omega, by omega⟩)))))⟩ | (exfalso; omega) | omega) (by first | exact Lo_h187t204 | exact ⟨st.1, st.2.1, st.2.2.2.2⟩ | exact Or.inl ⟨by omega, zF, st.2.2.1, st.2.2.2.1⟩ | exact Or.inr (Or.inr (Or.inl ⟨by omega, by omega, zC, st.2.2.1, st.2.2.2.1⟩)) | exact Or.inr (Or.inr (Or.inr (Or.inl ⟨by omega, by omega, zW, st.2.2.2.1⟩))) | exact Or.inr (Or.inr (Or.inr (Or.inr (Or.inl ⟨by omega, by omega, zJ, fun _ => st.2.2.1, st.2.2.2.1⟩)))) | exact Or.inr (Or.inr (Or.inr (Or.inr (Or.inr (Or.inl ⟨by omega, by omega, zS, st.2.2.1, st.2.2.2.1⟩))))) | exact ⟨_, _, _, Or.inl ⟨by omega, zF, rfl, rfl⟩⟩ | exact ⟨_, _, _, Or.inr (Or.inr (Or.inl ⟨by omega, by omega, zC, rfl, rfl⟩))⟩ | exact ⟨_, _, _, Or.inr (Or.inr (Or.inr (Or.inl ⟨by omega, by omega, zW, rfl⟩)))⟩ | exact ⟨_, _, _, Or.inr (Or.inr (Or.inr (Or.inr (Or.inl ⟨by omega, by omega, zJ, fun q => absurd q (by omega), rfl⟩))))⟩ | exact ⟨_, _, _, Or.inr (Or.inr (Or.inr (Or.inr (Or.inr (Or.inl ⟨by omega, by omega, zS, rfl, rfl⟩)))))⟩ | exact ⟨0, 0, 0, Or.inr (Or.inl ⟨by omega, by omega, by omega⟩)⟩ | exact ⟨0, 0, 0, Or.inr (Or.inr (Or.inr (Or.inr (Or.inr (Or.inr ⟨by omega, by omega, by omega, by omega, by omega, by omega⟩)))))⟩ | (exfalso; omega) | omega) (by first | exact Lo_h187t204 | exact ⟨st.1, st.2.1, st.2.2.2.2⟩ | exact Or.inl ⟨by omega, zF, st.2.2.1, st.2.2.2.1⟩ | exact Or.inr (Or.inr (Or.inl ⟨by omega, by omega, zC, st.2.2.1, st.2.2.2.1⟩)) | exact Or.inr (Or.inr (Or.inr (Or.inl ⟨by omega, by omega, zW, st.2.2.2.1⟩))) | exact Or.inr (Or.inr (Or.inr (Or.inr (Or.inl ⟨by omega, by omega, zJ, fun _ => st.2.2.1, st.2.2.2.1⟩)))) | exact Or.inr (Or.inr (Or.inr (Or.inr (Or.inr (Or.inl ⟨by omega, by omega, zS, st.2.2.1, st.2.2.2.1⟩))))) | exact ⟨_, _, _, Or.inl ⟨by omega, zF, rfl, rfl⟩⟩ | exact ⟨_, _, _, Or.inr (Or.inr (Or.inl ⟨by omega, by omega, zC, rfl, rfl⟩))⟩ | exact ⟨_, _, _, Or.inr (Or.inr (Or.inr (Or.inl ⟨by omega, by omega, zW, rfl⟩)))⟩ | exact ⟨_, _, _, Or.inr (Or.inr (Or.inr (Or.inr (Or.inl ⟨by omega, by omega, zJ, fun q => absurd q (by omega), rfl⟩))))⟩ | exact ⟨_, _, _, Or.inr (Or.inr (Or.inr (Or.inr (Or.inr (Or.inl ⟨by omega, by omega, zS, rfl, rfl⟩)))))⟩ | exact ⟨0, 0, 0, Or.inr (Or.inl ⟨by omega, by omega, by omega⟩)⟩ | exact ⟨0, 0, 0, Or.inr (Or.inr (Or.inr (Or.inr (Or.inr (Or.inr ⟨by omega, by omega, by omega, by omega, by omega, by omega⟩)))))⟩ | (exfalso; omega) | omega) Ln_h187t192 Sp_h187t193 Al_h187t194 Cu_h187t195)
            ·
              refine w_aload_n gz_49_81 rfl ?_
              refine w_iconst gz_49_82 (by decide) ?_
              refine w_inv (k := 0) (as := [(0, 5)]) (r := []) (x := 82) (ls0 := [(2, 82), (0, 5)]) gz_49_83 gm_42 rfl is_82 rd_5 rfl rfl rfl rfl rfl ?_
              refine w_aload_n gz_42_0 rfl ?_
              refine v_getI (j := 9) gz_42_1 rfl is_82 rd_5 rfl (fun v206 ev206 pv206 qv206 => ?_)
              have zv206 := ev206.trans cf
              refine w_ifne (t := 20) gz_42_4 rfl (fun u207 => by exfalso; omega) (fun u207 => ?_)
              refine w_aload_n gz_42_7 rfl ?_
              refine w_iload_n gz_42_8 rfl ?_
              refine w_bipush gz_42_9 (by decide) ?_
              refine w_aload_n gz_42_11 rfl ?_
              refine v_getI (j := 7) gz_42_12 rfl is_82 rd_5 rfl (fun v208 ev208 pv208 qv208 => ?_)
              refine w_imul gz_42_15 ⟨by omega, by omega⟩ ?_
              refine w_iadd gz_42_16 ⟨by omega, by omega⟩ ?_
              refine v_putI (j := 9) gz_42_17 rfl is_82 rd_5 rfl (by omega) (by omega) rfl (fun h209 fh209 => ?_)
              have gh209 : my_fr [(4, 4), (4, 5), (4, 6), (4, 7), (4, 8), (4, 9), (5, 5), (5, 6), (5, 7), (5, 8), (5, 9), (32, -1), (33, -1), (34, -1), (35, -1), (36, -1), (37, -1), (38, -1), (39, -1)] h h209 := my_fr.up my_fr.rf is_82 fh209 rfl
              have Ln_h209 : Ln h209 := Ln_ag (my_ag.up fh209 is_82 rfl) n_Ln
              have Sp_h209 : Sp h209 wv := Sp_ag (my_ag.up fh209 is_82 rfl) hwv n_Ln n_Sp
              have Al_h209 : Al h209 := Al_ag (my_ag.up fh209 is_82 rfl) n_Al
              have Cu_h209 : Cu h209 := Cu_ag (my_ag.up fh209 is_82 rfl) n_Cu
              have Lo_h209 : Lo h h209 := Lo_ag (my_ag.up fh209 is_82 rfl) n_Ln (Lo_rf)
              refine w_vret gz_42_20 gm_42 ?_
              show wp l rho (d + 7) 49 86 [(2, 82), (0, 0), (0, 0), (0, 0), (0, 1), (0, 1)] [] h209 Q
              have psR : h209 82 7 = h 82 7 := ((my_up_fld fh209 (by decide)).trans (rfl : h 82 7 = h 82 7))
              have npsR : cs h209 = cs h := cs_eq (fun j => my_fr.at gh209 is_92 rfl) (my_fr.at gh209 is_82 rfl)
              have c210 := (my_up_self fh209)
              exact w_vret gz_49_86 gm_49 (k0 h209 (gh209) (by omega) (by omega) (by first | exact Lo_h209 | exact ⟨st.1, st.2.1, st.2.2.2.2⟩ | exact Or.inl ⟨by omega, zF, st.2.2.1, st.2.2.2.1⟩ | exact Or.inr (Or.inr (Or.inl ⟨by omega, by omega, zC, st.2.2.1, st.2.2.2.1⟩)) | exact Or.inr (Or.inr (Or.inr (Or.inl ⟨by omega, by omega, zW, st.2.2.2.1⟩))) | exact Or.inr (Or.inr (Or.inr (Or.inr (Or.inl ⟨by omega, by omega, zJ, fun _ => st.2.2.1, st.2.2.2.1⟩)))) | exact Or.inr (Or.inr (Or.inr (Or.inr (Or.inr (Or.inl ⟨by omega, by omega, zS, st.2.2.1, st.2.2.2.1⟩))))) | exact ⟨_, _, _, Or.inl ⟨by omega, zF, rfl, rfl⟩⟩ | exact ⟨_, _, _, Or.inr (Or.inr (Or.inl ⟨by omega, by omega, zC, rfl, rfl⟩))⟩ | exact ⟨_, _, _, Or.inr (Or.inr (Or.inr (Or.inl ⟨by omega, by omega, zW, rfl⟩)))⟩ | exact ⟨_, _, _, Or.inr (Or.inr (Or.inr (Or.inr (Or.inl ⟨by omega, by omega, zJ, fun q => absurd q (by omega), rfl⟩))))⟩ | exact ⟨_, _, _, Or.inr (Or.inr (Or.inr (Or.inr (Or.inr (Or.inl ⟨by omega, by omega, zS, rfl, rfl⟩)))))⟩ | exact ⟨0, 0, 0, Or.inr (Or.inl ⟨by omega, by omega, by omega⟩)⟩ | exact ⟨0, 0, 0, Or.inr (Or.inr (Or.inr (Or.inr (Or.inr (Or.inr ⟨by omega, by omega, by omega, by omega, by omega, by omega⟩)))))⟩ | (exfalso; omega) | omega) (by first | exact Lo_h209 | exact ⟨st.1, st.2.1, st.2.2.2.2⟩ | exact Or.inl ⟨by omega, zF, st.2.2.1, st.2.2.2.1⟩ | exact Or.inr (Or.inr (Or.inl ⟨by omega, by omega, zC, st.2.2.1, st.2.2.2.1⟩)) | exact Or.inr (Or.inr (Or.inr (Or.inl ⟨by omega, by omega, zW, st.2.2.2.1⟩))) | exact Or.inr (Or.inr (Or.inr (Or.inr (Or.inl ⟨by omega, by omega, zJ, fun _ => st.2.2.1, st.2.2.2.1⟩)))) | exact Or.inr (Or.inr (Or.inr (Or.inr (Or.inr (Or.inl ⟨by omega, by omega, zS, st.2.2.1, st.2.2.2.1⟩))))) | exact ⟨_, _, _, Or.inl ⟨by omega, zF, rfl, rfl⟩⟩ | exact ⟨_, _, _, Or.inr (Or.inr (Or.inl ⟨by omega, by omega, zC, rfl, rfl⟩))⟩ | exact ⟨_, _, _, Or.inr (Or.inr (Or.inr (Or.inl ⟨by omega, by omega, zW, rfl⟩)))⟩ | exact ⟨_, _, _, Or.inr (Or.inr (Or.inr (Or.inr (Or.inl ⟨by omega, by omega, zJ, fun q => absurd q (by omega), rfl⟩))))⟩ | exact ⟨_, _, _, Or.inr (Or.inr (Or.inr (Or.inr (Or.inr (Or.inl ⟨by omega, by omega, zS, rfl, rfl⟩)))))⟩ | exact ⟨0, 0, 0, Or.inr (Or.inl ⟨by omega, by omega, by omega⟩)⟩ | exact ⟨0, 0, 0, Or.inr (Or.inr (Or.inr (Or.inr (Or.inr (Or.inr ⟨by omega, by omega, by omega, by omega, by omega, by omega⟩)))))⟩ | (exfalso; omega) | omega) Ln_h209 Sp_h209 Al_h209 Cu_h209)
      ·
        show wp l rho (d + 7) 49 20 [(2, 82), (0, 0), (0, 0), (9, 0), (9, 0), (9, 0)] [(0, 1)] h Q
        rw [show wc ((6 : Nat) : Int) = 8422 from by decide] at xp16
        refine w_istore_n (ls' := [(2, 82), (0, 0), (0, 0), (0, 1), (9, 0), (9, 0)]) gz_49_20 gm_49 rfl rfl rfl ?_
        refine w_aload_n gz_49_21 rfl ?_
        refine w_ldcS gz_49_22 (by decide) ?_
        refine w_inv (k := 1) (as := [(3, ((7 : Nat) : Int))]) (r := []) (x := 82) (ls0 := [(2, 82), (3, ((7 : Nat) : Int)), (9, 0)]) gz_49_24 gm_41 rfl is_82 rd_5 rfl rfl rfl rfl rfl (c_Reader_isWord9_f0 (d := (d + 2)) (x1 := ((7 : Nat) : Int)) (by decide) (cf.trans (by omega)) n_Cu (fun w211 xp212 => ?_) (fun w213 w214 xp215 => ?_))
        ·
          show wp l rho (d + 7) 49 27 [(2, 82), (0, 0), (0, 0), (0, 1), (9, 0), (9, 0)] [(0, 0)] h Q
          rw [show wc ((7 : Nat) : Int) = 527412 from by decide] at xp212
          refine w_istore (ls' := [(2, 82), (0, 0), (0, 0), (0, 1), (0, 0), (9, 0)]) gz_49_27 gm_49 rfl rfl rfl ?_
          refine w_aload_n gz_49_29 rfl ?_
          refine w_ldcS gz_49_30 (by decide) ?_
          refine w_inv (k := 1) (as := [(3, ((8 : Nat) : Int))]) (r := []) (x := 82) (ls0 := [(2, 82), (3, ((8 : Nat) : Int)), (9, 0)]) gz_49_32 gm_41 rfl is_82 rd_5 rfl rfl rfl rfl rfl (c_Reader_isWord9_f0 (d := (d + 2)) (x1 := ((8 : Nat) : Int)) (by decide) (cf.trans (by omega)) n_Cu (fun w216 xp217 => ?_) (fun w218 w219 xp220 => ?_))
          ·
            show wp l rho (d + 7) 49 35 [(2, 82), (0, 0), (0, 0), (0, 1), (0, 0), (9, 0)] [(0, 0)] h Q
            rw [show wc ((8 : Nat) : Int) = 26801 from by decide] at xp217
            refine w_istore (ls' := [(2, 82), (0, 0), (0, 0), (0, 1), (0, 0), (0, 0)]) gz_49_35 gm_49 rfl rfl rfl ?_
            refine w_iload_n gz_49_37 rfl ?_
            refine w_ifne (t := 65) gz_49_38 rfl (fun u221 => by exfalso; omega) (fun u221 => ?_)
            refine w_iload_n gz_49_41 rfl ?_
            refine w_ifne (t := 65) gz_49_42 rfl (fun u222 => by exfalso; omega) (fun u222 => ?_)
            refine w_iload_n gz_49_45 rfl ?_
            refine w_ifne (t := 65) gz_49_46 rfl (fun u223 => ?_) (fun u223 => by exfalso; omega)
            refine w_iload_n gz_49_65 rfl ?_
            refine w_ifne (t := 87) gz_49_66 rfl (fun u224 => by exfalso; omega) (fun u224 => ?_)
            refine w_aload_n gz_49_69 rfl ?_
            refine v_getR (j := 2) gz_49_70 rfl is_82 rd_5 rfl (fun v225 ev225 tv225 => ?_)
            have sE73 : v225 = h 82 2 := by first | assumption | omega
            refine v_getI (j := 9) gz_49_73 rfl tv225 rd_4 rfl (fun v226 ev226 pv226 qv226 => ?_)
            have c76 : v226 = h (h 82 2) 9 := by rw [← sE73]; omega
            refine w_bipush gz_49_76 (by decide) ?_
            refine w_iclt (t := 87) gz_49_78 rfl (fun u227 => ?_) (fun u227 => ?_)
            ·
              have St5_ht228 : St5 h := ⟨by subst_vars; omega, by subst_vars; omega⟩
              refine w_aload_n gz_49_87 rfl ?_
              refine w_inv (k := 2) (as := []) (r := []) (x := 82) (ls0 := [(2, 82), (9, 0), (9, 0)]) gz_49_88 gm_37 rfl is_82 rd_5 rfl rfl rfl rfl rfl (c_Reader_nextToken9_f0 (d := (d + 5))  (cf.trans (by omega)) n_Al (fun h229 frh229 w230 w231 w232 xp233 xp234 Al_h229t235 Cu_h229t236 => ?_))
              have gh229 : my_fr [(4, 4), (4, 5), (4, 6), (4, 7), (4, 8), (4, 9), (5, 5), (5, 6), (5, 7), (5, 8), (5, 9), (32, -1), (33, -1), (34, -1), (35, -1), (36, -1), (37, -1), (38, -1), (39, -1)] h h229 := my_fr.tr my_fr.rf (frh229.mo rfl)
              have Ln_h229 : Ln h229 := Ln_ag (my_ag.fr frh229 rfl) n_Ln
              have Sp_h229 : Sp h229 wv := Sp_ag (my_ag.fr frh229 rfl) hwv n_Ln n_Sp
              have Lo_h229 : Lo h h229 := Lo_ag (my_ag.fr frh229 rfl) n_Ln (Lo_rf)
              have St5_h229 : St5 h229 := St5_ag (my_ag.fr frh229 rfl) n_Ln St5_ht228
              show wp l rho (d + 7) 49 91 [(2, 82), (0, 0), (0, 0), (0, 1), (0, 0), (0, 0)] [] h229 Q
              have xc237 := xp233 n_Cu
              have ck238 := Cu_s Cu_h229t236
              rw [show cs h229 = cs h from cs_eq (fun j => my_fr.at gh229 is_92 rfl) (my_fr.at gh229 is_82 rfl)] at ck238
              rw [show h229 82 7 = (sN (cs h) (h 82 7)) from xc237] at ck238
              refine w_iload_n gz_49_91 rfl ?_
              refine w_ifeq (t := 102) gz_49_92 rfl (fun u239 => ?_) (fun u239 => by exfalso; omega)
              refine w_iload_n gz_49_102 rfl ?_
              refine w_ifeq (t := 113) gz_49_103 rfl (fun u240 => ?_) (fun u240 => by exfalso; omega)
              refine w_iload_n gz_49_113 rfl ?_
              refine w_ifeq (t := 124) gz_49_114 rfl (fun u241 => by exfalso; omega) (fun u241 => ?_)
              refine w_aload_n gz_49_117 rfl ?_
              refine w_inv (k := 2) (as := []) (r := []) (x := 82) (ls0 := [(2, 82), (9, 0), (9, 0)]) gz_49_118 gm_56 rfl is_82 rd_5 rfl rfl rfl rfl rfl (c_Reader_readFew9_f0 (d := (d + 4))  (wv := wv) (((my_fr.at frh229 is_82 rfl).trans cf).trans (by omega)) (by first | assumption | omega) (by first | assumption | omega) Ln_h229 Sp_h229 St5_h229 Al_h229t235 Cu_h229t236 (fun h242 frh242 w243 w244 xp245 xp246 Ln_h242t247 Sp_h242t248 Al_h242t249 Cu_h242t250 => ?_) (fun h251 frh251 w252 xp253 xp254 xp255 Ln_h251t256 Sp_h251t257 Al_h251t258 Cu_h251t259 => ?_))
              ·
                have gh242 : my_fr [(4, 4), (4, 5), (4, 6), (4, 7), (4, 8), (4, 9), (5, 5), (5, 6), (5, 7), (5, 8), (5, 9), (32, -1), (33, -1), (34, -1), (35, -1), (36, -1), (37, -1), (38, -1), (39, -1)] h h242 := my_fr.tr gh229 (frh242.mo rfl)
                show wp l rho (d + 7) 49 121 [(2, 82), (0, 0), (0, 0), (0, 1), (0, 0), (0, 0)] [] h242 Q
                have tE260 : cs h229 = cs h := cs_eq (fun j => my_fr.at gh229 is_92 rfl) (my_fr.at gh229 is_82 rfl)
                rw [tE260] at xp245
                have ps261 : h229 82 7 = (sN (cs h) (h 82 7)) := xc237
                rw [ps261] at xp245
                have ck262 := Cu_s Cu_h242t250
                rw [show cs h242 = cs h from cs_eq (fun j => my_fr.at gh242 is_92 rfl) (my_fr.at gh242 is_82 rfl)] at ck262
                have q2 : h229 82 2 = h 82 2 := my_fr.at frh229 is_82 rfl
                have q11 : h229 (h 82 2) 1 = h (h 82 2) 1 := my_fr.at frh229 n_Ln.2.2.2.1 rfl
                have q13 : h229 (h 82 2) 3 = h (h 82 2) 3 := my_fr.at frh229 n_Ln.2.2.2.1 rfl
                have q14 : h229 (h 82 2) 4 = h (h 82 2) 4 := my_fr.at frh229 n_Ln.2.2.2.1 rfl
                have q19 : h229 (h 82 2) 9 = h (h 82 2) 9 := my_fr.at frh229 n_Ln.2.2.2.1 rfl
                have qc : h229 2 = h 2 := funext (fun j => my_fr.at frh229 is_2 rfl)
                have zW := xp245
                simp only [q2, q11, q13, q14, q19, qc] at zW
                have Lo_h242t263 : Lo h h242 := Lo_tr Lo_h229 xp246
                refine w_goto (t := 140) gz_49_121 rfl ?_
                have psR : h242 82 7 = h242 82 7 := (rfl : h242 82 7 = h242 82 7)
                have npsR : cs h242 = cs h := cs_eq (fun j => my_fr.at gh242 is_92 rfl) (my_fr.at gh242 is_82 rfl)
                have c264 := (rfl : h242 82 9 = h242 82 9)
                exact w_vret gz_49_140 gm_49 (k0 h242 (gh242) (by omega) (by omega) (by first | exact Lo_h242t263 | exact ⟨st.1, st.2.1, st.2.2.2.2⟩ | exact Or.inl ⟨by omega, zF, st.2.2.1, st.2.2.2.1⟩ | exact Or.inr (Or.inr (Or.inl ⟨by omega, by omega, zC, st.2.2.1, st.2.2.2.1⟩)) | exact Or.inr (Or.inr (Or.inr (Or.inl ⟨by omega, by omega, zW, st.2.2.2.1⟩))) | exact Or.inr (Or.inr (Or.inr (Or.inr (Or.inl ⟨by omega, by omega, zJ, fun _ => st.2.2.1, st.2.2.2.1⟩)))) | exact Or.inr (Or.inr (Or.inr (Or.inr (Or.inr (Or.inl ⟨by omega, by omega, zS, st.2.2.1, st.2.2.2.1⟩))))) | exact ⟨_, _, _, Or.inl ⟨by omega, zF, rfl, rfl⟩⟩ | exact ⟨_, _, _, Or.inr (Or.inr (Or.inl ⟨by omega, by omega, zC, rfl, rfl⟩))⟩ | exact ⟨_, _, _, Or.inr (Or.inr (Or.inr (Or.inl ⟨by omega, by omega, zW, rfl⟩)))⟩ | exact ⟨_, _, _, Or.inr (Or.inr (Or.inr (Or.inr (Or.inl ⟨by omega, by omega, zJ, fun q => absurd q (by omega), rfl⟩))))⟩ | exact ⟨_, _, _, Or.inr (Or.inr (Or.inr (Or.inr (Or.inr (Or.inl ⟨by omega, by omega, zS, rfl, rfl⟩)))))⟩ | exact ⟨0, 0, 0, Or.inr (Or.inl ⟨by omega, by omega, by omega⟩)⟩ | exact ⟨0, 0, 0, Or.inr (Or.inr (Or.inr (Or.inr (Or.inr (Or.inr ⟨by omega, by omega, by omega, by omega, by omega, by omega⟩)))))⟩ | (exfalso; omega) | omega) (by first | exact Lo_h242t263 | exact ⟨st.1, st.2.1, st.2.2.2.2⟩ | exact Or.inl ⟨by omega, zF, st.2.2.1, st.2.2.2.1⟩ | exact Or.inr (Or.inr (Or.inl ⟨by omega, by omega, zC, st.2.2.1, st.2.2.2.1⟩)) | exact Or.inr (Or.inr (Or.inr (Or.inl ⟨by omega, by omega, zW, st.2.2.2.1⟩))) | exact Or.inr (Or.inr (Or.inr (Or.inr (Or.inl ⟨by omega, by omega, zJ, fun _ => st.2.2.1, st.2.2.2.1⟩)))) | exact Or.inr (Or.inr (Or.inr (Or.inr (Or.inr (Or.inl ⟨by omega, by omega, zS, st.2.2.1, st.2.2.2.1⟩))))) | exact ⟨_, _, _, Or.inl ⟨by omega, zF, rfl, rfl⟩⟩ | exact ⟨_, _, _, Or.inr (Or.inr (Or.inl ⟨by omega, by omega, zC, rfl, rfl⟩))⟩ | exact ⟨_, _, _, Or.inr (Or.inr (Or.inr (Or.inl ⟨by omega, by omega, zW, rfl⟩)))⟩ | exact ⟨_, _, _, Or.inr (Or.inr (Or.inr (Or.inr (Or.inl ⟨by omega, by omega, zJ, fun q => absurd q (by omega), rfl⟩))))⟩ | exact ⟨_, _, _, Or.inr (Or.inr (Or.inr (Or.inr (Or.inr (Or.inl ⟨by omega, by omega, zS, rfl, rfl⟩)))))⟩ | exact ⟨0, 0, 0, Or.inr (Or.inl ⟨by omega, by omega, by omega⟩)⟩ | exact ⟨0, 0, 0, Or.inr (Or.inr (Or.inr (Or.inr (Or.inr (Or.inr ⟨by omega, by omega, by omega, by omega, by omega, by omega⟩)))))⟩ | (exfalso; omega) | omega) Ln_h242t247 Sp_h242t248 Al_h242t249 Cu_h242t250)
              ·
                have gh251 : my_fr [(4, 4), (4, 5), (4, 6), (4, 7), (4, 8), (4, 9), (5, 5), (5, 6), (5, 7), (5, 8), (5, 9), (32, -1), (33, -1), (34, -1), (35, -1), (36, -1), (37, -1), (38, -1), (39, -1)] h h251 := my_fr.tr gh229 (frh251.mo rfl)
                show wp l rho (d + 7) 49 121 [(2, 82), (0, 0), (0, 0), (0, 1), (0, 0), (0, 0)] [] h251 Q
                have tE265 : cs h229 = cs h := cs_eq (fun j => my_fr.at gh229 is_92 rfl) (my_fr.at gh229 is_82 rfl)
                rw [tE265] at xp253
                have ps266 : h229 82 7 = (sN (cs h) (h 82 7)) := xc237
                rw [ps266] at xp253
                have ck267 := Cu_s Cu_h251t259
                rw [show cs h251 = cs h from cs_eq (fun j => my_fr.at gh251 is_92 rfl) (my_fr.at gh251 is_82 rfl)] at ck267
                have q2 : h229 82 2 = h 82 2 := my_fr.at frh229 is_82 rfl
                have q11 : h229 (h 82 2) 1 = h (h 82 2) 1 := my_fr.at frh229 n_Ln.2.2.2.1 rfl
                have q13 : h229 (h 82 2) 3 = h (h 82 2) 3 := my_fr.at frh229 n_Ln.2.2.2.1 rfl
                have q14 : h229 (h 82 2) 4 = h (h 82 2) 4 := my_fr.at frh229 n_Ln.2.2.2.1 rfl
                have q19 : h229 (h 82 2) 9 = h (h 82 2) 9 := my_fr.at frh229 n_Ln.2.2.2.1 rfl
                have qc : h229 2 = h 2 := funext (fun j => my_fr.at frh229 is_2 rfl)
                have zW := xp253
                simp only [q2, q11, q13, q14, q19, qc] at zW
                have st := xp254
                unfold Std at st
                simp only [q2, q11, q13, q14, q19, qc] at st
                have Lo_h251t268 : Lo h h251 := Lo_tr Lo_h229 xp255
                refine w_goto (t := 140) gz_49_121 rfl ?_
                have psR : h251 82 7 = h251 82 7 := (rfl : h251 82 7 = h251 82 7)
                have npsR : cs h251 = cs h := cs_eq (fun j => my_fr.at gh251 is_92 rfl) (my_fr.at gh251 is_82 rfl)
                have c269 := w252
                exact w_vret gz_49_140 gm_49 (k1 h251 (gh251) (by omega) (by first | exact Lo_h251t268 | exact ⟨st.1, st.2.1, st.2.2.2.2⟩ | exact Or.inl ⟨by omega, zF, st.2.2.1, st.2.2.2.1⟩ | exact Or.inr (Or.inr (Or.inl ⟨by omega, by omega, zC, st.2.2.1, st.2.2.2.1⟩)) | exact Or.inr (Or.inr (Or.inr (Or.inl ⟨by omega, by omega, zW, st.2.2.2.1⟩))) | exact Or.inr (Or.inr (Or.inr (Or.inr (Or.inl ⟨by omega, by omega, zJ, fun _ => st.2.2.1, st.2.2.2.1⟩)))) | exact Or.inr (Or.inr (Or.inr (Or.inr (Or.inr (Or.inl ⟨by omega, by omega, zS, st.2.2.1, st.2.2.2.1⟩))))) | exact ⟨_, _, _, Or.inl ⟨by omega, zF, rfl, rfl⟩⟩ | exact ⟨_, _, _, Or.inr (Or.inr (Or.inl ⟨by omega, by omega, zC, rfl, rfl⟩))⟩ | exact ⟨_, _, _, Or.inr (Or.inr (Or.inr (Or.inl ⟨by omega, by omega, zW, rfl⟩)))⟩ | exact ⟨_, _, _, Or.inr (Or.inr (Or.inr (Or.inr (Or.inl ⟨by omega, by omega, zJ, fun q => absurd q (by omega), rfl⟩))))⟩ | exact ⟨_, _, _, Or.inr (Or.inr (Or.inr (Or.inr (Or.inr (Or.inl ⟨by omega, by omega, zS, rfl, rfl⟩)))))⟩ | exact ⟨0, 0, 0, Or.inr (Or.inl ⟨by omega, by omega, by omega⟩)⟩ | exact ⟨0, 0, 0, Or.inr (Or.inr (Or.inr (Or.inr (Or.inr (Or.inr ⟨by omega, by omega, by omega, by omega, by omega, by omega⟩)))))⟩ | (exfalso; omega) | omega) (by first | exact Lo_h251t268 | exact ⟨st.1, st.2.1, st.2.2.2.2⟩ | exact Or.inl ⟨by omega, zF, st.2.2.1, st.2.2.2.1⟩ | exact Or.inr (Or.inr (Or.inl ⟨by omega, by omega, zC, st.2.2.1, st.2.2.2.1⟩)) | exact Or.inr (Or.inr (Or.inr (Or.inl ⟨by omega, by omega, zW, st.2.2.2.1⟩))) | exact Or.inr (Or.inr (Or.inr (Or.inr (Or.inl ⟨by omega, by omega, zJ, fun _ => st.2.2.1, st.2.2.2.1⟩)))) | exact Or.inr (Or.inr (Or.inr (Or.inr (Or.inr (Or.inl ⟨by omega, by omega, zS, st.2.2.1, st.2.2.2.1⟩))))) | exact ⟨_, _, _, Or.inl ⟨by omega, zF, rfl, rfl⟩⟩ | exact ⟨_, _, _, Or.inr (Or.inr (Or.inl ⟨by omega, by omega, zC, rfl, rfl⟩))⟩ | exact ⟨_, _, _, Or.inr (Or.inr (Or.inr (Or.inl ⟨by omega, by omega, zW, rfl⟩)))⟩ | exact ⟨_, _, _, Or.inr (Or.inr (Or.inr (Or.inr (Or.inl ⟨by omega, by omega, zJ, fun q => absurd q (by omega), rfl⟩))))⟩ | exact ⟨_, _, _, Or.inr (Or.inr (Or.inr (Or.inr (Or.inr (Or.inl ⟨by omega, by omega, zS, rfl, rfl⟩)))))⟩ | exact ⟨0, 0, 0, Or.inr (Or.inl ⟨by omega, by omega, by omega⟩)⟩ | exact ⟨0, 0, 0, Or.inr (Or.inr (Or.inr (Or.inr (Or.inr (Or.inr ⟨by omega, by omega, by omega, by omega, by omega, by omega⟩)))))⟩ | (exfalso; omega) | omega) (by first | exact Lo_h251t268 | exact ⟨st.1, st.2.1, st.2.2.2.2⟩ | exact Or.inl ⟨by omega, zF, st.2.2.1, st.2.2.2.1⟩ | exact Or.inr (Or.inr (Or.inl ⟨by omega, by omega, zC, st.2.2.1, st.2.2.2.1⟩)) | exact Or.inr (Or.inr (Or.inr (Or.inl ⟨by omega, by omega, zW, st.2.2.2.1⟩))) | exact Or.inr (Or.inr (Or.inr (Or.inr (Or.inl ⟨by omega, by omega, zJ, fun _ => st.2.2.1, st.2.2.2.1⟩)))) | exact Or.inr (Or.inr (Or.inr (Or.inr (Or.inr (Or.inl ⟨by omega, by omega, zS, st.2.2.1, st.2.2.2.1⟩))))) | exact ⟨_, _, _, Or.inl ⟨by omega, zF, rfl, rfl⟩⟩ | exact ⟨_, _, _, Or.inr (Or.inr (Or.inl ⟨by omega, by omega, zC, rfl, rfl⟩))⟩ | exact ⟨_, _, _, Or.inr (Or.inr (Or.inr (Or.inl ⟨by omega, by omega, zW, rfl⟩)))⟩ | exact ⟨_, _, _, Or.inr (Or.inr (Or.inr (Or.inr (Or.inl ⟨by omega, by omega, zJ, fun q => absurd q (by omega), rfl⟩))))⟩ | exact ⟨_, _, _, Or.inr (Or.inr (Or.inr (Or.inr (Or.inr (Or.inl ⟨by omega, by omega, zS, rfl, rfl⟩)))))⟩ | exact ⟨0, 0, 0, Or.inr (Or.inl ⟨by omega, by omega, by omega⟩)⟩ | exact ⟨0, 0, 0, Or.inr (Or.inr (Or.inr (Or.inr (Or.inr (Or.inr ⟨by omega, by omega, by omega, by omega, by omega, by omega⟩)))))⟩ | (exfalso; omega) | omega) Ln_h251t256 Sp_h251t257 Al_h251t258 Cu_h251t259)
            ·
              refine w_aload_n gz_49_81 rfl ?_
              refine w_iconst gz_49_82 (by decide) ?_
              refine w_inv (k := 0) (as := [(0, 5)]) (r := []) (x := 82) (ls0 := [(2, 82), (0, 5)]) gz_49_83 gm_42 rfl is_82 rd_5 rfl rfl rfl rfl rfl ?_
              refine w_aload_n gz_42_0 rfl ?_
              refine v_getI (j := 9) gz_42_1 rfl is_82 rd_5 rfl (fun v270 ev270 pv270 qv270 => ?_)
              have zv270 := ev270.trans cf
              refine w_ifne (t := 20) gz_42_4 rfl (fun u271 => by exfalso; omega) (fun u271 => ?_)
              refine w_aload_n gz_42_7 rfl ?_
              refine w_iload_n gz_42_8 rfl ?_
              refine w_bipush gz_42_9 (by decide) ?_
              refine w_aload_n gz_42_11 rfl ?_
              refine v_getI (j := 7) gz_42_12 rfl is_82 rd_5 rfl (fun v272 ev272 pv272 qv272 => ?_)
              refine w_imul gz_42_15 ⟨by omega, by omega⟩ ?_
              refine w_iadd gz_42_16 ⟨by omega, by omega⟩ ?_
              refine v_putI (j := 9) gz_42_17 rfl is_82 rd_5 rfl (by omega) (by omega) rfl (fun h273 fh273 => ?_)
              have gh273 : my_fr [(4, 4), (4, 5), (4, 6), (4, 7), (4, 8), (4, 9), (5, 5), (5, 6), (5, 7), (5, 8), (5, 9), (32, -1), (33, -1), (34, -1), (35, -1), (36, -1), (37, -1), (38, -1), (39, -1)] h h273 := my_fr.up my_fr.rf is_82 fh273 rfl
              have Ln_h273 : Ln h273 := Ln_ag (my_ag.up fh273 is_82 rfl) n_Ln
              have Sp_h273 : Sp h273 wv := Sp_ag (my_ag.up fh273 is_82 rfl) hwv n_Ln n_Sp
              have Al_h273 : Al h273 := Al_ag (my_ag.up fh273 is_82 rfl) n_Al
              have Cu_h273 : Cu h273 := Cu_ag (my_ag.up fh273 is_82 rfl) n_Cu
              have Lo_h273 : Lo h h273 := Lo_ag (my_ag.up fh273 is_82 rfl) n_Ln (Lo_rf)
              refine w_vret gz_42_20 gm_42 ?_
              show wp l rho (d + 7) 49 86 [(2, 82), (0, 0), (0, 0), (0, 1), (0, 0), (0, 0)] [] h273 Q
              have psR : h273 82 7 = h 82 7 := ((my_up_fld fh273 (by decide)).trans (rfl : h 82 7 = h 82 7))
              have npsR : cs h273 = cs h := cs_eq (fun j => my_fr.at gh273 is_92 rfl) (my_fr.at gh273 is_82 rfl)
              have c274 := (my_up_self fh273)
              exact w_vret gz_49_86 gm_49 (k0 h273 (gh273) (by omega) (by omega) (by first | exact Lo_h273 | exact ⟨st.1, st.2.1, st.2.2.2.2⟩ | exact Or.inl ⟨by omega, zF, st.2.2.1, st.2.2.2.1⟩ | exact Or.inr (Or.inr (Or.inl ⟨by omega, by omega, zC, st.2.2.1, st.2.2.2.1⟩)) | exact Or.inr (Or.inr (Or.inr (Or.inl ⟨by omega, by omega, zW, st.2.2.2.1⟩))) | exact Or.inr (Or.inr (Or.inr (Or.inr (Or.inl ⟨by omega, by omega, zJ, fun _ => st.2.2.1, st.2.2.2.1⟩)))) | exact Or.inr (Or.inr (Or.inr (Or.inr (Or.inr (Or.inl ⟨by omega, by omega, zS, st.2.2.1, st.2.2.2.1⟩))))) | exact ⟨_, _, _, Or.inl ⟨by omega, zF, rfl, rfl⟩⟩ | exact ⟨_, _, _, Or.inr (Or.inr (Or.inl ⟨by omega, by omega, zC, rfl, rfl⟩))⟩ | exact ⟨_, _, _, Or.inr (Or.inr (Or.inr (Or.inl ⟨by omega, by omega, zW, rfl⟩)))⟩ | exact ⟨_, _, _, Or.inr (Or.inr (Or.inr (Or.inr (Or.inl ⟨by omega, by omega, zJ, fun q => absurd q (by omega), rfl⟩))))⟩ | exact ⟨_, _, _, Or.inr (Or.inr (Or.inr (Or.inr (Or.inr (Or.inl ⟨by omega, by omega, zS, rfl, rfl⟩)))))⟩ | exact ⟨0, 0, 0, Or.inr (Or.inl ⟨by omega, by omega, by omega⟩)⟩ | exact ⟨0, 0, 0, Or.inr (Or.inr (Or.inr (Or.inr (Or.inr (Or.inr ⟨by omega, by omega, by omega, by omega, by omega, by omega⟩)))))⟩ | (exfalso; omega) | omega) (by first | exact Lo_h273 | exact ⟨st.1, st.2.1, st.2.2.2.2⟩ | exact Or.inl ⟨by omega, zF, st.2.2.1, st.2.2.2.1⟩ | exact Or.inr (Or.inr (Or.inl ⟨by omega, by omega, zC, st.2.2.1, st.2.2.2.1⟩)) | exact Or.inr (Or.inr (Or.inr (Or.inl ⟨by omega, by omega, zW, st.2.2.2.1⟩))) | exact Or.inr (Or.inr (Or.inr (Or.inr (Or.inl ⟨by omega, by omega, zJ, fun _ => st.2.2.1, st.2.2.2.1⟩)))) | exact Or.inr (Or.inr (Or.inr (Or.inr (Or.inr (Or.inl ⟨by omega, by omega, zS, st.2.2.1, st.2.2.2.1⟩))))) | exact ⟨_, _, _, Or.inl ⟨by omega, zF, rfl, rfl⟩⟩ | exact ⟨_, _, _, Or.inr (Or.inr (Or.inl ⟨by omega, by omega, zC, rfl, rfl⟩))⟩ | exact ⟨_, _, _, Or.inr (Or.inr (Or.inr (Or.inl ⟨by omega, by omega, zW, rfl⟩)))⟩ | exact ⟨_, _, _, Or.inr (Or.inr (Or.inr (Or.inr (Or.inl ⟨by omega, by omega, zJ, fun q => absurd q (by omega), rfl⟩))))⟩ | exact ⟨_, _, _, Or.inr (Or.inr (Or.inr (Or.inr (Or.inr (Or.inl ⟨by omega, by omega, zS, rfl, rfl⟩)))))⟩ | exact ⟨0, 0, 0, Or.inr (Or.inl ⟨by omega, by omega, by omega⟩)⟩ | exact ⟨0, 0, 0, Or.inr (Or.inr (Or.inr (Or.inr (Or.inr (Or.inr ⟨by omega, by omega, by omega, by omega, by omega, by omega⟩)))))⟩ | (exfalso; omega) | omega) Ln_h273 Sp_h273 Al_h273 Cu_h273)
          ·
            show wp l rho (d + 7) 49 35 [(2, 82), (0, 0), (0, 0), (0, 1), (0, 0), (9, 0)] [(0, 1)] h Q
            rw [show wc ((8 : Nat) : Int) = 26801 from by decide] at xp220
            refine w_istore (ls' := [(2, 82), (0, 0), (0, 0), (0, 1), (0, 0), (0, 1)]) gz_49_35 gm_49 rfl rfl rfl ?_
            refine w_iload_n gz_49_37 rfl ?_
            refine w_ifne (t := 65) gz_49_38 rfl (fun u275 => by exfalso; omega) (fun u275 => ?_)
            refine w_iload_n gz_49_41 rfl ?_
            refine w_ifne (t := 65) gz_49_42 rfl (fun u276 => by exfalso; omega) (fun u276 => ?_)
            refine w_iload_n gz_49_45 rfl ?_
            refine w_ifne (t := 65) gz_49_46 rfl (fun u277 => ?_) (fun u277 => by exfalso; omega)
            refine w_iload_n gz_49_65 rfl ?_
            refine w_ifne (t := 87) gz_49_66 rfl (fun u278 => by exfalso; omega) (fun u278 => ?_)
            refine w_aload_n gz_49_69 rfl ?_
            refine v_getR (j := 2) gz_49_70 rfl is_82 rd_5 rfl (fun v279 ev279 tv279 => ?_)
            have sE73 : v279 = h 82 2 := by first | assumption | omega
            refine v_getI (j := 9) gz_49_73 rfl tv279 rd_4 rfl (fun v280 ev280 pv280 qv280 => ?_)
            have c76 : v280 = h (h 82 2) 9 := by rw [← sE73]; omega
            refine w_bipush gz_49_76 (by decide) ?_
            refine w_iclt (t := 87) gz_49_78 rfl (fun u281 => ?_) (fun u281 => ?_)
            ·
              have St5_ht282 : St5 h := ⟨by subst_vars; omega, by subst_vars; omega⟩
              refine w_aload_n gz_49_87 rfl ?_
              refine w_inv (k := 2) (as := []) (r := []) (x := 82) (ls0 := [(2, 82), (9, 0), (9, 0)]) gz_49_88 gm_37 rfl is_82 rd_5 rfl rfl rfl rfl rfl (c_Reader_nextToken9_f0 (d := (d + 5))  (cf.trans (by omega)) n_Al (fun h283 frh283 w284 w285 w286 xp287 xp288 Al_h283t289 Cu_h283t290 => ?_))
              have gh283 : my_fr [(4, 4), (4, 5), (4, 6), (4, 7), (4, 8), (4, 9), (5, 5), (5, 6), (5, 7), (5, 8), (5, 9), (32, -1), (33, -1), (34, -1), (35, -1), (36, -1), (37, -1), (38, -1), (39, -1)] h h283 := my_fr.tr my_fr.rf (frh283.mo rfl)
              have Ln_h283 : Ln h283 := Ln_ag (my_ag.fr frh283 rfl) n_Ln
              have Sp_h283 : Sp h283 wv := Sp_ag (my_ag.fr frh283 rfl) hwv n_Ln n_Sp
              have Lo_h283 : Lo h h283 := Lo_ag (my_ag.fr frh283 rfl) n_Ln (Lo_rf)
              have St5_h283 : St5 h283 := St5_ag (my_ag.fr frh283 rfl) n_Ln St5_ht282
              show wp l rho (d + 7) 49 91 [(2, 82), (0, 0), (0, 0), (0, 1), (0, 0), (0, 1)] [] h283 Q
              have xc291 := xp287 n_Cu
              have ck292 := Cu_s Cu_h283t290
              rw [show cs h283 = cs h from cs_eq (fun j => my_fr.at gh283 is_92 rfl) (my_fr.at gh283 is_82 rfl)] at ck292
              rw [show h283 82 7 = (sN (cs h) (h 82 7)) from xc291] at ck292
              refine w_iload_n gz_49_91 rfl ?_
              refine w_ifeq (t := 102) gz_49_92 rfl (fun u293 => ?_) (fun u293 => by exfalso; omega)
              refine w_iload_n gz_49_102 rfl ?_
              refine w_ifeq (t := 113) gz_49_103 rfl (fun u294 => ?_) (fun u294 => by exfalso; omega)
              refine w_iload_n gz_49_113 rfl ?_
              refine w_ifeq (t := 124) gz_49_114 rfl (fun u295 => by exfalso; omega) (fun u295 => ?_)
              refine w_aload_n gz_49_117 rfl ?_
              refine w_inv (k := 2) (as := []) (r := []) (x := 82) (ls0 := [(2, 82), (9, 0), (9, 0)]) gz_49_118 gm_56 rfl is_82 rd_5 rfl rfl rfl rfl rfl (c_Reader_readFew9_f0 (d := (d + 4))  (wv := wv) (((my_fr.at frh283 is_82 rfl).trans cf).trans (by omega)) (by first | assumption | omega) (by first | assumption | omega) Ln_h283 Sp_h283 St5_h283 Al_h283t289 Cu_h283t290 (fun h296 frh296 w297 w298 xp299 xp300 Ln_h296t301 Sp_h296t302 Al_h296t303 Cu_h296t304 => ?_) (fun h305 frh305 w306 xp307 xp308 xp309 Ln_h305t310 Sp_h305t311 Al_h305t312 Cu_h305t313 => ?_))
              ·
                have gh296 : my_fr [(4, 4), (4, 5), (4, 6), (4, 7), (4, 8), (4, 9), (5, 5), (5, 6), (5, 7), (5, 8), (5, 9), (32, -1), (33, -1), (34, -1), (35, -1), (36, -1), (37, -1), (38, -1), (39, -1)] h h296 := my_fr.tr gh283 (frh296.mo rfl)
                show wp l rho (d + 7) 49 121 [(2, 82), (0, 0), (0, 0), (0, 1), (0, 0), (0, 1)] [] h296 Q
                have tE314 : cs h283 = cs h := cs_eq (fun j => my_fr.at gh283 is_92 rfl) (my_fr.at gh283 is_82 rfl)
                rw [tE314] at xp299
                have ps315 : h283 82 7 = (sN (cs h) (h 82 7)) := xc291
                rw [ps315] at xp299
                have ck316 := Cu_s Cu_h296t304
                rw [show cs h296 = cs h from cs_eq (fun j => my_fr.at gh296 is_92 rfl) (my_fr.at gh296 is_82 rfl)] at ck316
                have q2 : h283 82 2 = h 82 2 := my_fr.at frh283 is_82 rfl
                have q11 : h283 (h 82 2) 1 = h (h 82 2) 1 := my_fr.at frh283 n_Ln.2.2.2.1 rfl
                have q13 : h283 (h 82 2) 3 = h (h 82 2) 3 := my_fr.at frh283 n_Ln.2.2.2.1 rfl
                have q14 : h283 (h 82 2) 4 = h (h 82 2) 4 := my_fr.at frh283 n_Ln.2.2.2.1 rfl
                have q19 : h283 (h 82 2) 9 = h (h 82 2) 9 := my_fr.at frh283 n_Ln.2.2.2.1 rfl
                have qc : h283 2 = h 2 := funext (fun j => my_fr.at frh283 is_2 rfl)
                have zW := xp299
                simp only [q2, q11, q13, q14, q19, qc] at zW
                have Lo_h296t317 : Lo h h296 := Lo_tr Lo_h283 xp300
                refine w_goto (t := 140) gz_49_121 rfl ?_
                have psR : h296 82 7 = h296 82 7 := (rfl : h296 82 7 = h296 82 7)
                have npsR : cs h296 = cs h := cs_eq (fun j => my_fr.at gh296 is_92 rfl) (my_fr.at gh296 is_82 rfl)
                have c318 := (rfl : h296 82 9 = h296 82 9)
                exact w_vret gz_49_140 gm_49 (k0 h296 (gh296) (by omega) (by omega) (by first | exact Lo_h296t317 | exact ⟨st.1, st.2.1, st.2.2.2.2⟩ | exact Or.inl ⟨by omega, zF, st.2.2.1, st.2.2.2.1⟩ | exact Or.inr (Or.inr (Or.inl ⟨by omega, by omega, zC, st.2.2.1, st.2.2.2.1⟩)) | exact Or.inr (Or.inr (Or.inr (Or.inl ⟨by omega, by omega, zW, st.2.2.2.1⟩))) | exact Or.inr (Or.inr (Or.inr (Or.inr (Or.inl ⟨by omega, by omega, zJ, fun _ => st.2.2.1, st.2.2.2.1⟩)))) | exact Or.inr (Or.inr (Or.inr (Or.inr (Or.inr (Or.inl ⟨by omega, by omega, zS, st.2.2.1, st.2.2.2.1⟩))))) | exact ⟨_, _, _, Or.inl ⟨by omega, zF, rfl, rfl⟩⟩ | exact ⟨_, _, _, Or.inr (Or.inr (Or.inl ⟨by omega, by omega, zC, rfl, rfl⟩))⟩ | exact ⟨_, _, _, Or.inr (Or.inr (Or.inr (Or.inl ⟨by omega, by omega, zW, rfl⟩)))⟩ | exact ⟨_, _, _, Or.inr (Or.inr (Or.inr (Or.inr (Or.inl ⟨by omega, by omega, zJ, fun q => absurd q (by omega), rfl⟩))))⟩ | exact ⟨_, _, _, Or.inr (Or.inr (Or.inr (Or.inr (Or.inr (Or.inl ⟨by omega, by omega, zS, rfl, rfl⟩)))))⟩ | exact ⟨0, 0, 0, Or.inr (Or.inl ⟨by omega, by omega, by omega⟩)⟩ | exact ⟨0, 0, 0, Or.inr (Or.inr (Or.inr (Or.inr (Or.inr (Or.inr ⟨by omega, by omega, by omega, by omega, by omega, by omega⟩)))))⟩ | (exfalso; omega) | omega) (by first | exact Lo_h296t317 | exact ⟨st.1, st.2.1, st.2.2.2.2⟩ | exact Or.inl ⟨by omega, zF, st.2.2.1, st.2.2.2.1⟩ | exact Or.inr (Or.inr (Or.inl ⟨by omega, by omega, zC, st.2.2.1, st.2.2.2.1⟩)) | exact Or.inr (Or.inr (Or.inr (Or.inl ⟨by omega, by omega, zW, st.2.2.2.1⟩))) | exact Or.inr (Or.inr (Or.inr (Or.inr (Or.inl ⟨by omega, by omega, zJ, fun _ => st.2.2.1, st.2.2.2.1⟩)))) | exact Or.inr (Or.inr (Or.inr (Or.inr (Or.inr (Or.inl ⟨by omega, by omega, zS, st.2.2.1, st.2.2.2.1⟩))))) | exact ⟨_, _, _, Or.inl ⟨by omega, zF, rfl, rfl⟩⟩ | exact ⟨_, _, _, Or.inr (Or.inr (Or.inl ⟨by omega, by omega, zC, rfl, rfl⟩))⟩ | exact ⟨_, _, _, Or.inr (Or.inr (Or.inr (Or.inl ⟨by omega, by omega, zW, rfl⟩)))⟩ | exact ⟨_, _, _, Or.inr (Or.inr (Or.inr (Or.inr (Or.inl ⟨by omega, by omega, zJ, fun q => absurd q (by omega), rfl⟩))))⟩ | exact ⟨_, _, _, Or.inr (Or.inr (Or.inr (Or.inr (Or.inr (Or.inl ⟨by omega, by omega, zS, rfl, rfl⟩)))))⟩ | exact ⟨0, 0, 0, Or.inr (Or.inl ⟨by omega, by omega, by omega⟩)⟩ | exact ⟨0, 0, 0, Or.inr (Or.inr (Or.inr (Or.inr (Or.inr (Or.inr ⟨by omega, by omega, by omega, by omega, by omega, by omega⟩)))))⟩ | (exfalso; omega) | omega) Ln_h296t301 Sp_h296t302 Al_h296t303 Cu_h296t304)
              ·
                have gh305 : my_fr [(4, 4), (4, 5), (4, 6), (4, 7), (4, 8), (4, 9), (5, 5), (5, 6), (5, 7), (5, 8), (5, 9), (32, -1), (33, -1), (34, -1), (35, -1), (36, -1), (37, -1), (38, -1), (39, -1)] h h305 := my_fr.tr gh283 (frh305.mo rfl)
                show wp l rho (d + 7) 49 121 [(2, 82), (0, 0), (0, 0), (0, 1), (0, 0), (0, 1)] [] h305 Q
                have tE319 : cs h283 = cs h := cs_eq (fun j => my_fr.at gh283 is_92 rfl) (my_fr.at gh283 is_82 rfl)
                rw [tE319] at xp307
                have ps320 : h283 82 7 = (sN (cs h) (h 82 7)) := xc291
                rw [ps320] at xp307
                have ck321 := Cu_s Cu_h305t313
                rw [show cs h305 = cs h from cs_eq (fun j => my_fr.at gh305 is_92 rfl) (my_fr.at gh305 is_82 rfl)] at ck321
                have q2 : h283 82 2 = h 82 2 := my_fr.at frh283 is_82 rfl
                have q11 : h283 (h 82 2) 1 = h (h 82 2) 1 := my_fr.at frh283 n_Ln.2.2.2.1 rfl
                have q13 : h283 (h 82 2) 3 = h (h 82 2) 3 := my_fr.at frh283 n_Ln.2.2.2.1 rfl
                have q14 : h283 (h 82 2) 4 = h (h 82 2) 4 := my_fr.at frh283 n_Ln.2.2.2.1 rfl
                have q19 : h283 (h 82 2) 9 = h (h 82 2) 9 := my_fr.at frh283 n_Ln.2.2.2.1 rfl
                have qc : h283 2 = h 2 := funext (fun j => my_fr.at frh283 is_2 rfl)
                have zW := xp307
                simp only [q2, q11, q13, q14, q19, qc] at zW
                have st := xp308
                unfold Std at st
                simp only [q2, q11, q13, q14, q19, qc] at st
                have Lo_h305t322 : Lo h h305 := Lo_tr Lo_h283 xp309
                refine w_goto (t := 140) gz_49_121 rfl ?_
                have psR : h305 82 7 = h305 82 7 := (rfl : h305 82 7 = h305 82 7)
                have npsR : cs h305 = cs h := cs_eq (fun j => my_fr.at gh305 is_92 rfl) (my_fr.at gh305 is_82 rfl)
                have c323 := w306
                exact w_vret gz_49_140 gm_49 (k1 h305 (gh305) (by omega) (by first | exact Lo_h305t322 | exact ⟨st.1, st.2.1, st.2.2.2.2⟩ | exact Or.inl ⟨by omega, zF, st.2.2.1, st.2.2.2.1⟩ | exact Or.inr (Or.inr (Or.inl ⟨by omega, by omega, zC, st.2.2.1, st.2.2.2.1⟩)) | exact Or.inr (Or.inr (Or.inr (Or.inl ⟨by omega, by omega, zW, st.2.2.2.1⟩))) | exact Or.inr (Or.inr (Or.inr (Or.inr (Or.inl ⟨by omega, by omega, zJ, fun _ => st.2.2.1, st.2.2.2.1⟩)))) | exact Or.inr (Or.inr (Or.inr (Or.inr (Or.inr (Or.inl ⟨by omega, by omega, zS, st.2.2.1, st.2.2.2.1⟩))))) | exact ⟨_, _, _, Or.inl ⟨by omega, zF, rfl, rfl⟩⟩ | exact ⟨_, _, _, Or.inr (Or.inr (Or.inl ⟨by omega, by omega, zC, rfl, rfl⟩))⟩ | exact ⟨_, _, _, Or.inr (Or.inr (Or.inr (Or.inl ⟨by omega, by omega, zW, rfl⟩)))⟩ | exact ⟨_, _, _, Or.inr (Or.inr (Or.inr (Or.inr (Or.inl ⟨by omega, by omega, zJ, fun q => absurd q (by omega), rfl⟩))))⟩ | exact ⟨_, _, _, Or.inr (Or.inr (Or.inr (Or.inr (Or.inr (Or.inl ⟨by omega, by omega, zS, rfl, rfl⟩)))))⟩ | exact ⟨0, 0, 0, Or.inr (Or.inl ⟨by omega, by omega, by omega⟩)⟩ | exact ⟨0, 0, 0, Or.inr (Or.inr (Or.inr (Or.inr (Or.inr (Or.inr ⟨by omega, by omega, by omega, by omega, by omega, by omega⟩)))))⟩ | (exfalso; omega) | omega) (by first | exact Lo_h305t322 | exact ⟨st.1, st.2.1, st.2.2.2.2⟩ | exact Or.inl ⟨by omega, zF, st.2.2.1, st.2.2.2.1⟩ | exact Or.inr (Or.inr (Or.inl ⟨by omega, by omega, zC, st.2.2.1, st.2.2.2.1⟩)) | exact Or.inr (Or.inr (Or.inr (Or.inl ⟨by omega, by omega, zW, st.2.2.2.1⟩))) | exact Or.inr (Or.inr (Or.inr (Or.inr (Or.inl ⟨by omega, by omega, zJ, fun _ => st.2.2.1, st.2.2.2.1⟩)))) | exact Or.inr (Or.inr (Or.inr (Or.inr (Or.inr (Or.inl ⟨by omega, by omega, zS, st.2.2.1, st.2.2.2.1⟩))))) | exact ⟨_, _, _, Or.inl ⟨by omega, zF, rfl, rfl⟩⟩ | exact ⟨_, _, _, Or.inr (Or.inr (Or.inl ⟨by omega, by omega, zC, rfl, rfl⟩))⟩ | exact ⟨_, _, _, Or.inr (Or.inr (Or.inr (Or.inl ⟨by omega, by omega, zW, rfl⟩)))⟩ | exact ⟨_, _, _, Or.inr (Or.inr (Or.inr (Or.inr (Or.inl ⟨by omega, by omega, zJ, fun q => absurd q (by omega), rfl⟩))))⟩ | exact ⟨_, _, _, Or.inr (Or.inr (Or.inr (Or.inr (Or.inr (Or.inl ⟨by omega, by omega, zS, rfl, rfl⟩)))))⟩ | exact ⟨0, 0, 0, Or.inr (Or.inl ⟨by omega, by omega, by omega⟩)⟩ | exact ⟨0, 0, 0, Or.inr (Or.inr (Or.inr (Or.inr (Or.inr (Or.inr ⟨by omega, by omega, by omega, by omega, by omega, by omega⟩)))))⟩ | (exfalso; omega) | omega) (by first | exact Lo_h305t322 | exact ⟨st.1, st.2.1, st.2.2.2.2⟩ | exact Or.inl ⟨by omega, zF, st.2.2.1, st.2.2.2.1⟩ | exact Or.inr (Or.inr (Or.inl ⟨by omega, by omega, zC, st.2.2.1, st.2.2.2.1⟩)) | exact Or.inr (Or.inr (Or.inr (Or.inl ⟨by omega, by omega, zW, st.2.2.2.1⟩))) | exact Or.inr (Or.inr (Or.inr (Or.inr (Or.inl ⟨by omega, by omega, zJ, fun _ => st.2.2.1, st.2.2.2.1⟩)))) | exact Or.inr (Or.inr (Or.inr (Or.inr (Or.inr (Or.inl ⟨by omega, by omega, zS, st.2.2.1, st.2.2.2.1⟩))))) | exact ⟨_, _, _, Or.inl ⟨by omega, zF, rfl, rfl⟩⟩ | exact ⟨_, _, _, Or.inr (Or.inr (Or.inl ⟨by omega, by omega, zC, rfl, rfl⟩))⟩ | exact ⟨_, _, _, Or.inr (Or.inr (Or.inr (Or.inl ⟨by omega, by omega, zW, rfl⟩)))⟩ | exact ⟨_, _, _, Or.inr (Or.inr (Or.inr (Or.inr (Or.inl ⟨by omega, by omega, zJ, fun q => absurd q (by omega), rfl⟩))))⟩ | exact ⟨_, _, _, Or.inr (Or.inr (Or.inr (Or.inr (Or.inr (Or.inl ⟨by omega, by omega, zS, rfl, rfl⟩)))))⟩ | exact ⟨0, 0, 0, Or.inr (Or.inl ⟨by omega, by omega, by omega⟩)⟩ | exact ⟨0, 0, 0, Or.inr (Or.inr (Or.inr (Or.inr (Or.inr (Or.inr ⟨by omega, by omega, by omega, by omega, by omega, by omega⟩)))))⟩ | (exfalso; omega) | omega) Ln_h305t310 Sp_h305t311 Al_h305t312 Cu_h305t313)
            ·
              refine w_aload_n gz_49_81 rfl ?_
              refine w_iconst gz_49_82 (by decide) ?_
              refine w_inv (k := 0) (as := [(0, 5)]) (r := []) (x := 82) (ls0 := [(2, 82), (0, 5)]) gz_49_83 gm_42 rfl is_82 rd_5 rfl rfl rfl rfl rfl ?_
              refine w_aload_n gz_42_0 rfl ?_
              refine v_getI (j := 9) gz_42_1 rfl is_82 rd_5 rfl (fun v324 ev324 pv324 qv324 => ?_)
              have zv324 := ev324.trans cf
              refine w_ifne (t := 20) gz_42_4 rfl (fun u325 => by exfalso; omega) (fun u325 => ?_)
              refine w_aload_n gz_42_7 rfl ?_
              refine w_iload_n gz_42_8 rfl ?_
              refine w_bipush gz_42_9 (by decide) ?_
              refine w_aload_n gz_42_11 rfl ?_
              refine v_getI (j := 7) gz_42_12 rfl is_82 rd_5 rfl (fun v326 ev326 pv326 qv326 => ?_)
              refine w_imul gz_42_15 ⟨by omega, by omega⟩ ?_
              refine w_iadd gz_42_16 ⟨by omega, by omega⟩ ?_
              refine v_putI (j := 9) gz_42_17 rfl is_82 rd_5 rfl (by omega) (by omega) rfl (fun h327 fh327 => ?_)
              have gh327 : my_fr [(4, 4), (4, 5), (4, 6), (4, 7), (4, 8), (4, 9), (5, 5), (5, 6), (5, 7), (5, 8), (5, 9), (32, -1), (33, -1), (34, -1), (35, -1), (36, -1), (37, -1), (38, -1), (39, -1)] h h327 := my_fr.up my_fr.rf is_82 fh327 rfl
              have Ln_h327 : Ln h327 := Ln_ag (my_ag.up fh327 is_82 rfl) n_Ln
              have Sp_h327 : Sp h327 wv := Sp_ag (my_ag.up fh327 is_82 rfl) hwv n_Ln n_Sp
              have Al_h327 : Al h327 := Al_ag (my_ag.up fh327 is_82 rfl) n_Al
              have Cu_h327 : Cu h327 := Cu_ag (my_ag.up fh327 is_82 rfl) n_Cu
              have Lo_h327 : Lo h h327 := Lo_ag (my_ag.up fh327 is_82 rfl) n_Ln (Lo_rf)
              refine w_vret gz_42_20 gm_42 ?_
              show wp l rho (d + 7) 49 86 [(2, 82), (0, 0), (0, 0), (0, 1), (0, 0), (0, 1)] [] h327 Q
              have psR : h327 82 7 = h 82 7 := ((my_up_fld fh327 (by decide)).trans (rfl : h 82 7 = h 82 7))
              have npsR : cs h327 = cs h := cs_eq (fun j => my_fr.at gh327 is_92 rfl) (my_fr.at gh327 is_82 rfl)
              have c328 := (my_up_self fh327)
              exact w_vret gz_49_86 gm_49 (k0 h327 (gh327) (by omega) (by omega) (by first | exact Lo_h327 | exact ⟨st.1, st.2.1, st.2.2.2.2⟩ | exact Or.inl ⟨by omega, zF, st.2.2.1, st.2.2.2.1⟩ | exact Or.inr (Or.inr (Or.inl ⟨by omega, by omega, zC, st.2.2.1, st.2.2.2.1⟩)) | exact Or.inr (Or.inr (Or.inr (Or.inl ⟨by omega, by omega, zW, st.2.2.2.1⟩))) | exact Or.inr (Or.inr (Or.inr (Or.inr (Or.inl ⟨by omega, by omega, zJ, fun _ => st.2.2.1, st.2.2.2.1⟩)))) | exact Or.inr (Or.inr (Or.inr (Or.inr (Or.inr (Or.inl ⟨by omega, by omega, zS, st.2.2.1, st.2.2.2.1⟩))))) | exact ⟨_, _, _, Or.inl ⟨by omega, zF, rfl, rfl⟩⟩ | exact ⟨_, _, _, Or.inr (Or.inr (Or.inl ⟨by omega, by omega, zC, rfl, rfl⟩))⟩ | exact ⟨_, _, _, Or.inr (Or.inr (Or.inr (Or.inl ⟨by omega, by omega, zW, rfl⟩)))⟩ | exact ⟨_, _, _, Or.inr (Or.inr (Or.inr (Or.inr (Or.inl ⟨by omega, by omega, zJ, fun q => absurd q (by omega), rfl⟩))))⟩ | exact ⟨_, _, _, Or.inr (Or.inr (Or.inr (Or.inr (Or.inr (Or.inl ⟨by omega, by omega, zS, rfl, rfl⟩)))))⟩ | exact ⟨0, 0, 0, Or.inr (Or.inl ⟨by omega, by omega, by omega⟩)⟩ | exact ⟨0, 0, 0, Or.inr (Or.inr (Or.inr (Or.inr (Or.inr (Or.inr ⟨by omega, by omega, by omega, by omega, by omega, by omega⟩)))))⟩ | (exfalso; omega) | omega) (by first | exact Lo_h327 | exact ⟨st.1, st.2.1, st.2.2.2.2⟩ | exact Or.inl ⟨by omega, zF, st.2.2.1, st.2.2.2.1⟩ | exact Or.inr (Or.inr (Or.inl ⟨by omega, by omega, zC, st.2.2.1, st.2.2.2.1⟩)) | exact Or.inr (Or.inr (Or.inr (Or.inl ⟨by omega, by omega, zW, st.2.2.2.1⟩))) | exact Or.inr (Or.inr (Or.inr (Or.inr (Or.inl ⟨by omega, by omega, zJ, fun _ => st.2.2.1, st.2.2.2.1⟩)))) | exact Or.inr (Or.inr (Or.inr (Or.inr (Or.inr (Or.inl ⟨by omega, by omega, zS, st.2.2.1, st.2.2.2.1⟩))))) | exact ⟨_, _, _, Or.inl ⟨by omega, zF, rfl, rfl⟩⟩ | exact ⟨_, _, _, Or.inr (Or.inr (Or.inl ⟨by omega, by omega, zC, rfl, rfl⟩))⟩ | exact ⟨_, _, _, Or.inr (Or.inr (Or.inr (Or.inl ⟨by omega, by omega, zW, rfl⟩)))⟩ | exact ⟨_, _, _, Or.inr (Or.inr (Or.inr (Or.inr (Or.inl ⟨by omega, by omega, zJ, fun q => absurd q (by omega), rfl⟩))))⟩ | exact ⟨_, _, _, Or.inr (Or.inr (Or.inr (Or.inr (Or.inr (Or.inl ⟨by omega, by omega, zS, rfl, rfl⟩)))))⟩ | exact ⟨0, 0, 0, Or.inr (Or.inl ⟨by omega, by omega, by omega⟩)⟩ | exact ⟨0, 0, 0, Or.inr (Or.inr (Or.inr (Or.inr (Or.inr (Or.inr ⟨by omega, by omega, by omega, by omega, by omega, by omega⟩)))))⟩ | (exfalso; omega) | omega) Ln_h327 Sp_h327 Al_h327 Cu_h327)
        ·
          show wp l rho (d + 7) 49 27 [(2, 82), (0, 0), (0, 0), (0, 1), (9, 0), (9, 0)] [(0, 1)] h Q
          rw [show wc ((7 : Nat) : Int) = 527412 from by decide] at xp215
          refine w_istore (ls' := [(2, 82), (0, 0), (0, 0), (0, 1), (0, 1), (9, 0)]) gz_49_27 gm_49 rfl rfl rfl ?_
          refine w_aload_n gz_49_29 rfl ?_
          refine w_ldcS gz_49_30 (by decide) ?_
          refine w_inv (k := 1) (as := [(3, ((8 : Nat) : Int))]) (r := []) (x := 82) (ls0 := [(2, 82), (3, ((8 : Nat) : Int)), (9, 0)]) gz_49_32 gm_41 rfl is_82 rd_5 rfl rfl rfl rfl rfl (c_Reader_isWord9_f0 (d := (d + 2)) (x1 := ((8 : Nat) : Int)) (by decide) (cf.trans (by omega)) n_Cu (fun w329 xp330 => ?_) (fun w331 w332 xp333 => ?_))
          ·
            show wp l rho (d + 7) 49 35 [(2, 82), (0, 0), (0, 0), (0, 1), (0, 1), (9, 0)] [(0, 0)] h Q
            rw [show wc ((8 : Nat) : Int) = 26801 from by decide] at xp330
            refine w_istore (ls' := [(2, 82), (0, 0), (0, 0), (0, 1), (0, 1), (0, 0)]) gz_49_35 gm_49 rfl rfl rfl ?_
            refine w_iload_n gz_49_37 rfl ?_
            refine w_ifne (t := 65) gz_49_38 rfl (fun u334 => by exfalso; omega) (fun u334 => ?_)
            refine w_iload_n gz_49_41 rfl ?_
            refine w_ifne (t := 65) gz_49_42 rfl (fun u335 => by exfalso; omega) (fun u335 => ?_)
            refine w_iload_n gz_49_45 rfl ?_
            refine w_ifne (t := 65) gz_49_46 rfl (fun u336 => ?_) (fun u336 => by exfalso; omega)
            refine w_iload_n gz_49_65 rfl ?_
            refine w_ifne (t := 87) gz_49_66 rfl (fun u337 => by exfalso; omega) (fun u337 => ?_)
            refine w_aload_n gz_49_69 rfl ?_
            refine v_getR (j := 2) gz_49_70 rfl is_82 rd_5 rfl (fun v338 ev338 tv338 => ?_)
            have sE73 : v338 = h 82 2 := by first | assumption | omega
            refine v_getI (j := 9) gz_49_73 rfl tv338 rd_4 rfl (fun v339 ev339 pv339 qv339 => ?_)
            have c76 : v339 = h (h 82 2) 9 := by rw [← sE73]; omega
            refine w_bipush gz_49_76 (by decide) ?_
            refine w_iclt (t := 87) gz_49_78 rfl (fun u340 => ?_) (fun u340 => ?_)
            ·
              have St5_ht341 : St5 h := ⟨by subst_vars; omega, by subst_vars; omega⟩
              refine w_aload_n gz_49_87 rfl ?_
              refine w_inv (k := 2) (as := []) (r := []) (x := 82) (ls0 := [(2, 82), (9, 0), (9, 0)]) gz_49_88 gm_37 rfl is_82 rd_5 rfl rfl rfl rfl rfl (c_Reader_nextToken9_f0 (d := (d + 5))  (cf.trans (by omega)) n_Al (fun h342 frh342 w343 w344 w345 xp346 xp347 Al_h342t348 Cu_h342t349 => ?_))
              have gh342 : my_fr [(4, 4), (4, 5), (4, 6), (4, 7), (4, 8), (4, 9), (5, 5), (5, 6), (5, 7), (5, 8), (5, 9), (32, -1), (33, -1), (34, -1), (35, -1), (36, -1), (37, -1), (38, -1), (39, -1)] h h342 := my_fr.tr my_fr.rf (frh342.mo rfl)
              have Ln_h342 : Ln h342 := Ln_ag (my_ag.fr frh342 rfl) n_Ln
              have Sp_h342 : Sp h342 wv := Sp_ag (my_ag.fr frh342 rfl) hwv n_Ln n_Sp
              have Lo_h342 : Lo h h342 := Lo_ag (my_ag.fr frh342 rfl) n_Ln (Lo_rf)
              have St5_h342 : St5 h342 := St5_ag (my_ag.fr frh342 rfl) n_Ln St5_ht341
              show wp l rho (d + 7) 49 91 [(2, 82), (0, 0), (0, 0), (0, 1), (0, 1), (0, 0)] [] h342 Q
              have xc350 := xp346 n_Cu
              have ck351 := Cu_s Cu_h342t349
              rw [show cs h342 = cs h from cs_eq (fun j => my_fr.at gh342 is_92 rfl) (my_fr.at gh342 is_82 rfl)] at ck351
              rw [show h342 82 7 = (sN (cs h) (h 82 7)) from xc350] at ck351
              refine w_iload_n gz_49_91 rfl ?_
              refine w_ifeq (t := 102) gz_49_92 rfl (fun u352 => ?_) (fun u352 => by exfalso; omega)
              refine w_iload_n gz_49_102 rfl ?_
              refine w_ifeq (t := 113) gz_49_103 rfl (fun u353 => ?_) (fun u353 => by exfalso; omega)
              refine w_iload_n gz_49_113 rfl ?_
              refine w_ifeq (t := 124) gz_49_114 rfl (fun u354 => by exfalso; omega) (fun u354 => ?_)
              refine w_aload_n gz_49_117 rfl ?_
              refine w_inv (k := 2) (as := []) (r := []) (x := 82) (ls0 := [(2, 82), (9, 0), (9, 0)]) gz_49_118 gm_56 rfl is_82 rd_5 rfl rfl rfl rfl rfl (c_Reader_readFew9_f0 (d := (d + 4))  (wv := wv) (((my_fr.at frh342 is_82 rfl).trans cf).trans (by omega)) (by first | assumption | omega) (by first | assumption | omega) Ln_h342 Sp_h342 St5_h342 Al_h342t348 Cu_h342t349 (fun h355 frh355 w356 w357 xp358 xp359 Ln_h355t360 Sp_h355t361 Al_h355t362 Cu_h355t363 => ?_) (fun h364 frh364 w365 xp366 xp367 xp368 Ln_h364t369 Sp_h364t370 Al_h364t371 Cu_h364t372 => ?_))
              ·
                have gh355 : my_fr [(4, 4), (4, 5), (4, 6), (4, 7), (4, 8), (4, 9), (5, 5), (5, 6), (5, 7), (5, 8), (5, 9), (32, -1), (33, -1), (34, -1), (35, -1), (36, -1), (37, -1), (38, -1), (39, -1)] h h355 := my_fr.tr gh342 (frh355.mo rfl)
                show wp l rho (d + 7) 49 121 [(2, 82), (0, 0), (0, 0), (0, 1), (0, 1), (0, 0)] [] h355 Q
                have tE373 : cs h342 = cs h := cs_eq (fun j => my_fr.at gh342 is_92 rfl) (my_fr.at gh342 is_82 rfl)
                rw [tE373] at xp358
                have ps374 : h342 82 7 = (sN (cs h) (h 82 7)) := xc350
                rw [ps374] at xp358
                have ck375 := Cu_s Cu_h355t363
                rw [show cs h355 = cs h from cs_eq (fun j => my_fr.at gh355 is_92 rfl) (my_fr.at gh355 is_82 rfl)] at ck375
                have q2 : h342 82 2 = h 82 2 := my_fr.at frh342 is_82 rfl
                have q11 : h342 (h 82 2) 1 = h (h 82 2) 1 := my_fr.at frh342 n_Ln.2.2.2.1 rfl
                have q13 : h342 (h 82 2) 3 = h (h 82 2) 3 := my_fr.at frh342 n_Ln.2.2.2.1 rfl
                have q14 : h342 (h 82 2) 4 = h (h 82 2) 4 := my_fr.at frh342 n_Ln.2.2.2.1 rfl
                have q19 : h342 (h 82 2) 9 = h (h 82 2) 9 := my_fr.at frh342 n_Ln.2.2.2.1 rfl
                have qc : h342 2 = h 2 := funext (fun j => my_fr.at frh342 is_2 rfl)
                have zW := xp358
                simp only [q2, q11, q13, q14, q19, qc] at zW
                have Lo_h355t376 : Lo h h355 := Lo_tr Lo_h342 xp359
                refine w_goto (t := 140) gz_49_121 rfl ?_
                have psR : h355 82 7 = h355 82 7 := (rfl : h355 82 7 = h355 82 7)
                have npsR : cs h355 = cs h := cs_eq (fun j => my_fr.at gh355 is_92 rfl) (my_fr.at gh355 is_82 rfl)
                have c377 := (rfl : h355 82 9 = h355 82 9)
                exact w_vret gz_49_140 gm_49 (k0 h355 (gh355) (by omega) (by omega) (by first | exact Lo_h355t376 | exact ⟨st.1, st.2.1, st.2.2.2.2⟩ | exact Or.inl ⟨by omega, zF, st.2.2.1, st.2.2.2.1⟩ | exact Or.inr (Or.inr (Or.inl ⟨by omega, by omega, zC, st.2.2.1, st.2.2.2.1⟩)) | exact Or.inr (Or.inr (Or.inr (Or.inl ⟨by omega, by omega, zW, st.2.2.2.1⟩))) | exact Or.inr (Or.inr (Or.inr (Or.inr (Or.inl ⟨by omega, by omega, zJ, fun _ => st.2.2.1, st.2.2.2.1⟩)))) | exact Or.inr (Or.inr (Or.inr (Or.inr (Or.inr (Or.inl ⟨by omega, by omega, zS, st.2.2.1, st.2.2.2.1⟩))))) | exact ⟨_, _, _, Or.inl ⟨by omega, zF, rfl, rfl⟩⟩ | exact ⟨_, _, _, Or.inr (Or.inr (Or.inl ⟨by omega, by omega, zC, rfl, rfl⟩))⟩ | exact ⟨_, _, _, Or.inr (Or.inr (Or.inr (Or.inl ⟨by omega, by omega, zW, rfl⟩)))⟩ | exact ⟨_, _, _, Or.inr (Or.inr (Or.inr (Or.inr (Or.inl ⟨by omega, by omega, zJ, fun q => absurd q (by omega), rfl⟩))))⟩ | exact ⟨_, _, _, Or.inr (Or.inr (Or.inr (Or.inr (Or.inr (Or.inl ⟨by omega, by omega, zS, rfl, rfl⟩)))))⟩ | exact ⟨0, 0, 0, Or.inr (Or.inl ⟨by omega, by omega, by omega⟩)⟩ | exact ⟨0, 0, 0, Or.inr (Or.inr (Or.inr (Or.inr (Or.inr (Or.inr ⟨by omega, by omega, by omega, by omega, by omega, by omega⟩)))))⟩ | (exfalso; omega) | omega) (by first | exact Lo_h355t376 | exact ⟨st.1, st.2.1, st.2.2.2.2⟩ | exact Or.inl ⟨by omega, zF, st.2.2.1, st.2.2.2.1⟩ | exact Or.inr (Or.inr (Or.inl ⟨by omega, by omega, zC, st.2.2.1, st.2.2.2.1⟩)) | exact Or.inr (Or.inr (Or.inr (Or.inl ⟨by omega, by omega, zW, st.2.2.2.1⟩))) | exact Or.inr (Or.inr (Or.inr (Or.inr (Or.inl ⟨by omega, by omega, zJ, fun _ => st.2.2.1, st.2.2.2.1⟩)))) | exact Or.inr (Or.inr (Or.inr (Or.inr (Or.inr (Or.inl ⟨by omega, by omega, zS, st.2.2.1, st.2.2.2.1⟩))))) | exact ⟨_, _, _, Or.inl ⟨by omega, zF, rfl, rfl⟩⟩ | exact ⟨_, _, _, Or.inr (Or.inr (Or.inl ⟨by omega, by omega, zC, rfl, rfl⟩))⟩ | exact ⟨_, _, _, Or.inr (Or.inr (Or.inr (Or.inl ⟨by omega, by omega, zW, rfl⟩)))⟩ | exact ⟨_, _, _, Or.inr (Or.inr (Or.inr (Or.inr (Or.inl ⟨by omega, by omega, zJ, fun q => absurd q (by omega), rfl⟩))))⟩ | exact ⟨_, _, _, Or.inr (Or.inr (Or.inr (Or.inr (Or.inr (Or.inl ⟨by omega, by omega, zS, rfl, rfl⟩)))))⟩ | exact ⟨0, 0, 0, Or.inr (Or.inl ⟨by omega, by omega, by omega⟩)⟩ | exact ⟨0, 0, 0, Or.inr (Or.inr (Or.inr (Or.inr (Or.inr (Or.inr ⟨by omega, by omega, by omega, by omega, by omega, by omega⟩)))))⟩ | (exfalso; omega) | omega) Ln_h355t360 Sp_h355t361 Al_h355t362 Cu_h355t363)
              ·
                have gh364 : my_fr [(4, 4), (4, 5), (4, 6), (4, 7), (4, 8), (4, 9), (5, 5), (5, 6), (5, 7), (5, 8), (5, 9), (32, -1), (33, -1), (34, -1), (35, -1), (36, -1), (37, -1), (38, -1), (39, -1)] h h364 := my_fr.tr gh342 (frh364.mo rfl)
                show wp l rho (d + 7) 49 121 [(2, 82), (0, 0), (0, 0), (0, 1), (0, 1), (0, 0)] [] h364 Q
                have tE378 : cs h342 = cs h := cs_eq (fun j => my_fr.at gh342 is_92 rfl) (my_fr.at gh342 is_82 rfl)
                rw [tE378] at xp366
                have ps379 : h342 82 7 = (sN (cs h) (h 82 7)) := xc350
                rw [ps379] at xp366
                have ck380 := Cu_s Cu_h364t372
                rw [show cs h364 = cs h from cs_eq (fun j => my_fr.at gh364 is_92 rfl) (my_fr.at gh364 is_82 rfl)] at ck380
                have q2 : h342 82 2 = h 82 2 := my_fr.at frh342 is_82 rfl
                have q11 : h342 (h 82 2) 1 = h (h 82 2) 1 := my_fr.at frh342 n_Ln.2.2.2.1 rfl
                have q13 : h342 (h 82 2) 3 = h (h 82 2) 3 := my_fr.at frh342 n_Ln.2.2.2.1 rfl
                have q14 : h342 (h 82 2) 4 = h (h 82 2) 4 := my_fr.at frh342 n_Ln.2.2.2.1 rfl
                have q19 : h342 (h 82 2) 9 = h (h 82 2) 9 := my_fr.at frh342 n_Ln.2.2.2.1 rfl
                have qc : h342 2 = h 2 := funext (fun j => my_fr.at frh342 is_2 rfl)
                have zW := xp366
                simp only [q2, q11, q13, q14, q19, qc] at zW
                have st := xp367
                unfold Std at st
                simp only [q2, q11, q13, q14, q19, qc] at st
                have Lo_h364t381 : Lo h h364 := Lo_tr Lo_h342 xp368
                refine w_goto (t := 140) gz_49_121 rfl ?_
                have psR : h364 82 7 = h364 82 7 := (rfl : h364 82 7 = h364 82 7)
                have npsR : cs h364 = cs h := cs_eq (fun j => my_fr.at gh364 is_92 rfl) (my_fr.at gh364 is_82 rfl)
                have c382 := w365
                exact w_vret gz_49_140 gm_49 (k1 h364 (gh364) (by omega) (by first | exact Lo_h364t381 | exact ⟨st.1, st.2.1, st.2.2.2.2⟩ | exact Or.inl ⟨by omega, zF, st.2.2.1, st.2.2.2.1⟩ | exact Or.inr (Or.inr (Or.inl ⟨by omega, by omega, zC, st.2.2.1, st.2.2.2.1⟩)) | exact Or.inr (Or.inr (Or.inr (Or.inl ⟨by omega, by omega, zW, st.2.2.2.1⟩))) | exact Or.inr (Or.inr (Or.inr (Or.inr (Or.inl ⟨by omega, by omega, zJ, fun _ => st.2.2.1, st.2.2.2.1⟩)))) | exact Or.inr (Or.inr (Or.inr (Or.inr (Or.inr (Or.inl ⟨by omega, by omega, zS, st.2.2.1, st.2.2.2.1⟩))))) | exact ⟨_, _, _, Or.inl ⟨by omega, zF, rfl, rfl⟩⟩ | exact ⟨_, _, _, Or.inr (Or.inr (Or.inl ⟨by omega, by omega, zC, rfl, rfl⟩))⟩ | exact ⟨_, _, _, Or.inr (Or.inr (Or.inr (Or.inl ⟨by omega, by omega, zW, rfl⟩)))⟩ | exact ⟨_, _, _, Or.inr (Or.inr (Or.inr (Or.inr (Or.inl ⟨by omega, by omega, zJ, fun q => absurd q (by omega), rfl⟩))))⟩ | exact ⟨_, _, _, Or.inr (Or.inr (Or.inr (Or.inr (Or.inr (Or.inl ⟨by omega, by omega, zS, rfl, rfl⟩)))))⟩ | exact ⟨0, 0, 0, Or.inr (Or.inl ⟨by omega, by omega, by omega⟩)⟩ | exact ⟨0, 0, 0, Or.inr (Or.inr (Or.inr (Or.inr (Or.inr (Or.inr ⟨by omega, by omega, by omega, by omega, by omega, by omega⟩)))))⟩ | (exfalso; omega) | omega) (by first | exact Lo_h364t381 | exact ⟨st.1, st.2.1, st.2.2.2.2⟩ | exact Or.inl ⟨by omega, zF, st.2.2.1, st.2.2.2.1⟩ | exact Or.inr (Or.inr (Or.inl ⟨by omega, by omega, zC, st.2.2.1, st.2.2.2.1⟩)) | exact Or.inr (Or.inr (Or.inr (Or.inl ⟨by omega, by omega, zW, st.2.2.2.1⟩))) | exact Or.inr (Or.inr (Or.inr (Or.inr (Or.inl ⟨by omega, by omega, zJ, fun _ => st.2.2.1, st.2.2.2.1⟩)))) | exact Or.inr (Or.inr (Or.inr (Or.inr (Or.inr (Or.inl ⟨by omega, by omega, zS, st.2.2.1, st.2.2.2.1⟩))))) | exact ⟨_, _, _, Or.inl ⟨by omega, zF, rfl, rfl⟩⟩ | exact ⟨_, _, _, Or.inr (Or.inr (Or.inl ⟨by omega, by omega, zC, rfl, rfl⟩))⟩ | exact ⟨_, _, _, Or.inr (Or.inr (Or.inr (Or.inl ⟨by omega, by omega, zW, rfl⟩)))⟩ | exact ⟨_, _, _, Or.inr (Or.inr (Or.inr (Or.inr (Or.inl ⟨by omega, by omega, zJ, fun q => absurd q (by omega), rfl⟩))))⟩ | exact ⟨_, _, _, Or.inr (Or.inr (Or.inr (Or.inr (Or.inr (Or.inl ⟨by omega, by omega, zS, rfl, rfl⟩)))))⟩ | exact ⟨0, 0, 0, Or.inr (Or.inl ⟨by omega, by omega, by omega⟩)⟩ | exact ⟨0, 0, 0, Or.inr (Or.inr (Or.inr (Or.inr (Or.inr (Or.inr ⟨by omega, by omega, by omega, by omega, by omega, by omega⟩)))))⟩ | (exfalso; omega) | omega) (by first | exact Lo_h364t381 | exact ⟨st.1, st.2.1, st.2.2.2.2⟩ | exact Or.inl ⟨by omega, zF, st.2.2.1, st.2.2.2.1⟩ | exact Or.inr (Or.inr (Or.inl ⟨by omega, by omega, zC, st.2.2.1, st.2.2.2.1⟩)) | exact Or.inr (Or.inr (Or.inr (Or.inl ⟨by omega, by omega, zW, st.2.2.2.1⟩))) | exact Or.inr (Or.inr (Or.inr (Or.inr (Or.inl ⟨by omega, by omega, zJ, fun _ => st.2.2.1, st.2.2.2.1⟩)))) | exact Or.inr (Or.inr (Or.inr (Or.inr (Or.inr (Or.inl ⟨by omega, by omega, zS, st.2.2.1, st.2.2.2.1⟩))))) | exact ⟨_, _, _, Or.inl ⟨by omega, zF, rfl, rfl⟩⟩ | exact ⟨_, _, _, Or.inr (Or.inr (Or.inl ⟨by omega, by omega, zC, rfl, rfl⟩))⟩ | exact ⟨_, _, _, Or.inr (Or.inr (Or.inr (Or.inl ⟨by omega, by omega, zW, rfl⟩)))⟩ | exact ⟨_, _, _, Or.inr (Or.inr (Or.inr (Or.inr (Or.inl ⟨by omega, by omega, zJ, fun q => absurd q (by omega), rfl⟩))))⟩ | exact ⟨_, _, _, Or.inr (Or.inr (Or.inr (Or.inr (Or.inr (Or.inl ⟨by omega, by omega, zS, rfl, rfl⟩)))))⟩ | exact ⟨0, 0, 0, Or.inr (Or.inl ⟨by omega, by omega, by omega⟩)⟩ | exact ⟨0, 0, 0, Or.inr (Or.inr (Or.inr (Or.inr (Or.inr (Or.inr ⟨by omega, by omega, by omega, by omega, by omega, by omega⟩)))))⟩ | (exfalso; omega) | omega) Ln_h364t369 Sp_h364t370 Al_h364t371 Cu_h364t372)
            ·
              refine w_aload_n gz_49_81 rfl ?_
              refine w_iconst gz_49_82 (by decide) ?_
              refine w_inv (k := 0) (as := [(0, 5)]) (r := []) (x := 82) (ls0 := [(2, 82), (0, 5)]) gz_49_83 gm_42 rfl is_82 rd_5 rfl rfl rfl rfl rfl ?_
              refine w_aload_n gz_42_0 rfl ?_
              refine v_getI (j := 9) gz_42_1 rfl is_82 rd_5 rfl (fun v383 ev383 pv383 qv383 => ?_)
              have zv383 := ev383.trans cf
              refine w_ifne (t := 20) gz_42_4 rfl (fun u384 => by exfalso; omega) (fun u384 => ?_)
              refine w_aload_n gz_42_7 rfl ?_
              refine w_iload_n gz_42_8 rfl ?_
              refine w_bipush gz_42_9 (by decide) ?_
              refine w_aload_n gz_42_11 rfl ?_
              refine v_getI (j := 7) gz_42_12 rfl is_82 rd_5 rfl (fun v385 ev385 pv385 qv385 => ?_)
              refine w_imul gz_42_15 ⟨by omega, by omega⟩ ?_
              refine w_iadd gz_42_16 ⟨by omega, by omega⟩ ?_
              refine v_putI (j := 9) gz_42_17 rfl is_82 rd_5 rfl (by omega) (by omega) rfl (fun h386 fh386 => ?_)
              have gh386 : my_fr [(4, 4), (4, 5), (4, 6), (4, 7), (4, 8), (4, 9), (5, 5), (5, 6), (5, 7), (5, 8), (5, 9), (32, -1), (33, -1), (34, -1), (35, -1), (36, -1), (37, -1), (38, -1), (39, -1)] h h386 := my_fr.up my_fr.rf is_82 fh386 rfl
              have Ln_h386 : Ln h386 := Ln_ag (my_ag.up fh386 is_82 rfl) n_Ln
              have Sp_h386 : Sp h386 wv := Sp_ag (my_ag.up fh386 is_82 rfl) hwv n_Ln n_Sp
              have Al_h386 : Al h386 := Al_ag (my_ag.up fh386 is_82 rfl) n_Al
              have Cu_h386 : Cu h386 := Cu_ag (my_ag.up fh386 is_82 rfl) n_Cu
              have Lo_h386 : Lo h h386 := Lo_ag (my_ag.up fh386 is_82 rfl) n_Ln (Lo_rf)
              refine w_vret gz_42_20 gm_42 ?_
              show wp l rho (d + 7) 49 86 [(2, 82), (0, 0), (0, 0), (0, 1), (0, 1), (0, 0)] [] h386 Q
              have psR : h386 82 7 = h 82 7 := ((my_up_fld fh386 (by decide)).trans (rfl : h 82 7 = h 82 7))
              have npsR : cs h386 = cs h := cs_eq (fun j => my_fr.at gh386 is_92 rfl) (my_fr.at gh386 is_82 rfl)
              have c387 := (my_up_self fh386)
              exact w_vret gz_49_86 gm_49 (k0 h386 (gh386) (by omega) (by omega) (by first | exact Lo_h386 | exact ⟨st.1, st.2.1, st.2.2.2.2⟩ | exact Or.inl ⟨by omega, zF, st.2.2.1, st.2.2.2.1⟩ | exact Or.inr (Or.inr (Or.inl ⟨by omega, by omega, zC, st.2.2.1, st.2.2.2.1⟩)) | exact Or.inr (Or.inr (Or.inr (Or.inl ⟨by omega, by omega, zW, st.2.2.2.1⟩))) | exact Or.inr (Or.inr (Or.inr (Or.inr (Or.inl ⟨by omega, by omega, zJ, fun _ => st.2.2.1, st.2.2.2.1⟩)))) | exact Or.inr (Or.inr (Or.inr (Or.inr (Or.inr (Or.inl ⟨by omega, by omega, zS, st.2.2.1, st.2.2.2.1⟩))))) | exact ⟨_, _, _, Or.inl ⟨by omega, zF, rfl, rfl⟩⟩ | exact ⟨_, _, _, Or.inr (Or.inr (Or.inl ⟨by omega, by omega, zC, rfl, rfl⟩))⟩ | exact ⟨_, _, _, Or.inr (Or.inr (Or.inr (Or.inl ⟨by omega, by omega, zW, rfl⟩)))⟩ | exact ⟨_, _, _, Or.inr (Or.inr (Or.inr (Or.inr (Or.inl ⟨by omega, by omega, zJ, fun q => absurd q (by omega), rfl⟩))))⟩ | exact ⟨_, _, _, Or.inr (Or.inr (Or.inr (Or.inr (Or.inr (Or.inl ⟨by omega, by omega, zS, rfl, rfl⟩)))))⟩ | exact ⟨0, 0, 0, Or.inr (Or.inl ⟨by omega, by omega, by omega⟩)⟩ | exact ⟨0, 0, 0, Or.inr (Or.inr (Or.inr (Or.inr (Or.inr (Or.inr ⟨by omega, by omega, by omega, by omega, by omega, by omega⟩)))))⟩ | (exfalso; omega) | omega) (by first | exact Lo_h386 | exact ⟨st.1, st.2.1, st.2.2.2.2⟩ | exact Or.inl ⟨by omega, zF, st.2.2.1, st.2.2.2.1⟩ | exact Or.inr (Or.inr (Or.inl ⟨by omega, by omega, zC, st.2.2.1, st.2.2.2.1⟩)) | exact Or.inr (Or.inr (Or.inr (Or.inl ⟨by omega, by omega, zW, st.2.2.2.1⟩))) | exact Or.inr (Or.inr (Or.inr (Or.inr (Or.inl ⟨by omega, by omega, zJ, fun _ => st.2.2.1, st.2.2.2.1⟩)))) | exact Or.inr (Or.inr (Or.inr (Or.inr (Or.inr (Or.inl ⟨by omega, by omega, zS, st.2.2.1, st.2.2.2.1⟩))))) | exact ⟨_, _, _, Or.inl ⟨by omega, zF, rfl, rfl⟩⟩ | exact ⟨_, _, _, Or.inr (Or.inr (Or.inl ⟨by omega, by omega, zC, rfl, rfl⟩))⟩ | exact ⟨_, _, _, Or.inr (Or.inr (Or.inr (Or.inl ⟨by omega, by omega, zW, rfl⟩)))⟩ | exact ⟨_, _, _, Or.inr (Or.inr (Or.inr (Or.inr (Or.inl ⟨by omega, by omega, zJ, fun q => absurd q (by omega), rfl⟩))))⟩ | exact ⟨_, _, _, Or.inr (Or.inr (Or.inr (Or.inr (Or.inr (Or.inl ⟨by omega, by omega, zS, rfl, rfl⟩)))))⟩ | exact ⟨0, 0, 0, Or.inr (Or.inl ⟨by omega, by omega, by omega⟩)⟩ | exact ⟨0, 0, 0, Or.inr (Or.inr (Or.inr (Or.inr (Or.inr (Or.inr ⟨by omega, by omega, by omega, by omega, by omega, by omega⟩)))))⟩ | (exfalso; omega) | omega) Ln_h386 Sp_h386 Al_h386 Cu_h386)
          ·
            show wp l rho (d + 7) 49 35 [(2, 82), (0, 0), (0, 0), (0, 1), (0, 1), (9, 0)] [(0, 1)] h Q
            rw [show wc ((8 : Nat) : Int) = 26801 from by decide] at xp333
            refine w_istore (ls' := [(2, 82), (0, 0), (0, 0), (0, 1), (0, 1), (0, 1)]) gz_49_35 gm_49 rfl rfl rfl ?_
            refine w_iload_n gz_49_37 rfl ?_
            refine w_ifne (t := 65) gz_49_38 rfl (fun u388 => by exfalso; omega) (fun u388 => ?_)
            refine w_iload_n gz_49_41 rfl ?_
            refine w_ifne (t := 65) gz_49_42 rfl (fun u389 => by exfalso; omega) (fun u389 => ?_)
            refine w_iload_n gz_49_45 rfl ?_
            refine w_ifne (t := 65) gz_49_46 rfl (fun u390 => ?_) (fun u390 => by exfalso; omega)
            refine w_iload_n gz_49_65 rfl ?_
            refine w_ifne (t := 87) gz_49_66 rfl (fun u391 => by exfalso; omega) (fun u391 => ?_)
            refine w_aload_n gz_49_69 rfl ?_
            refine v_getR (j := 2) gz_49_70 rfl is_82 rd_5 rfl (fun v392 ev392 tv392 => ?_)
            have sE73 : v392 = h 82 2 := by first | assumption | omega
            refine v_getI (j := 9) gz_49_73 rfl tv392 rd_4 rfl (fun v393 ev393 pv393 qv393 => ?_)
            have c76 : v393 = h (h 82 2) 9 := by rw [← sE73]; omega
            refine w_bipush gz_49_76 (by decide) ?_
            refine w_iclt (t := 87) gz_49_78 rfl (fun u394 => ?_) (fun u394 => ?_)
            ·
              have St5_ht395 : St5 h := ⟨by subst_vars; omega, by subst_vars; omega⟩
              refine w_aload_n gz_49_87 rfl ?_
              refine w_inv (k := 2) (as := []) (r := []) (x := 82) (ls0 := [(2, 82), (9, 0), (9, 0)]) gz_49_88 gm_37 rfl is_82 rd_5 rfl rfl rfl rfl rfl (c_Reader_nextToken9_f0 (d := (d + 5))  (cf.trans (by omega)) n_Al (fun h396 frh396 w397 w398 w399 xp400 xp401 Al_h396t402 Cu_h396t403 => ?_))
              have gh396 : my_fr [(4, 4), (4, 5), (4, 6), (4, 7), (4, 8), (4, 9), (5, 5), (5, 6), (5, 7), (5, 8), (5, 9), (32, -1), (33, -1), (34, -1), (35, -1), (36, -1), (37, -1), (38, -1), (39, -1)] h h396 := my_fr.tr my_fr.rf (frh396.mo rfl)
              have Ln_h396 : Ln h396 := Ln_ag (my_ag.fr frh396 rfl) n_Ln
              have Sp_h396 : Sp h396 wv := Sp_ag (my_ag.fr frh396 rfl) hwv n_Ln n_Sp
              have Lo_h396 : Lo h h396 := Lo_ag (my_ag.fr frh396 rfl) n_Ln (Lo_rf)
              have St5_h396 : St5 h396 := St5_ag (my_ag.fr frh396 rfl) n_Ln St5_ht395
              show wp l rho (d + 7) 49 91 [(2, 82), (0, 0), (0, 0), (0, 1), (0, 1), (0, 1)] [] h396 Q
              have xc404 := xp400 n_Cu
              have ck405 := Cu_s Cu_h396t403
              rw [show cs h396 = cs h from cs_eq (fun j => my_fr.at gh396 is_92 rfl) (my_fr.at gh396 is_82 rfl)] at ck405
              rw [show h396 82 7 = (sN (cs h) (h 82 7)) from xc404] at ck405
              refine w_iload_n gz_49_91 rfl ?_
              refine w_ifeq (t := 102) gz_49_92 rfl (fun u406 => ?_) (fun u406 => by exfalso; omega)
              refine w_iload_n gz_49_102 rfl ?_
              refine w_ifeq (t := 113) gz_49_103 rfl (fun u407 => ?_) (fun u407 => by exfalso; omega)
              refine w_iload_n gz_49_113 rfl ?_
              refine w_ifeq (t := 124) gz_49_114 rfl (fun u408 => by exfalso; omega) (fun u408 => ?_)
              refine w_aload_n gz_49_117 rfl ?_
              refine w_inv (k := 2) (as := []) (r := []) (x := 82) (ls0 := [(2, 82), (9, 0), (9, 0)]) gz_49_118 gm_56 rfl is_82 rd_5 rfl rfl rfl rfl rfl (c_Reader_readFew9_f0 (d := (d + 4))  (wv := wv) (((my_fr.at frh396 is_82 rfl).trans cf).trans (by omega)) (by first | assumption | omega) (by first | assumption | omega) Ln_h396 Sp_h396 St5_h396 Al_h396t402 Cu_h396t403 (fun h409 frh409 w410 w411 xp412 xp413 Ln_h409t414 Sp_h409t415 Al_h409t416 Cu_h409t417 => ?_) (fun h418 frh418 w419 xp420 xp421 xp422 Ln_h418t423 Sp_h418t424 Al_h418t425 Cu_h418t426 => ?_))
              ·
                have gh409 : my_fr [(4, 4), (4, 5), (4, 6), (4, 7), (4, 8), (4, 9), (5, 5), (5, 6), (5, 7), (5, 8), (5, 9), (32, -1), (33, -1), (34, -1), (35, -1), (36, -1), (37, -1), (38, -1), (39, -1)] h h409 := my_fr.tr gh396 (frh409.mo rfl)
                show wp l rho (d + 7) 49 121 [(2, 82), (0, 0), (0, 0), (0, 1), (0, 1), (0, 1)] [] h409 Q
                have tE427 : cs h396 = cs h := cs_eq (fun j => my_fr.at gh396 is_92 rfl) (my_fr.at gh396 is_82 rfl)
                rw [tE427] at xp412
                have ps428 : h396 82 7 = (sN (cs h) (h 82 7)) := xc404
                rw [ps428] at xp412
                have ck429 := Cu_s Cu_h409t417
                rw [show cs h409 = cs h from cs_eq (fun j => my_fr.at gh409 is_92 rfl) (my_fr.at gh409 is_82 rfl)] at ck429
                have q2 : h396 82 2 = h 82 2 := my_fr.at frh396 is_82 rfl
                have q11 : h396 (h 82 2) 1 = h (h 82 2) 1 := my_fr.at frh396 n_Ln.2.2.2.1 rfl
                have q13 : h396 (h 82 2) 3 = h (h 82 2) 3 := my_fr.at frh396 n_Ln.2.2.2.1 rfl
                have q14 : h396 (h 82 2) 4 = h (h 82 2) 4 := my_fr.at frh396 n_Ln.2.2.2.1 rfl
                have q19 : h396 (h 82 2) 9 = h (h 82 2) 9 := my_fr.at frh396 n_Ln.2.2.2.1 rfl
                have qc : h396 2 = h 2 := funext (fun j => my_fr.at frh396 is_2 rfl)
                have zW := xp412
                simp only [q2, q11, q13, q14, q19, qc] at zW
                have Lo_h409t430 : Lo h h409 := Lo_tr Lo_h396 xp413
                refine w_goto (t := 140) gz_49_121 rfl ?_
                have psR : h409 82 7 = h409 82 7 := (rfl : h409 82 7 = h409 82 7)
                have npsR : cs h409 = cs h := cs_eq (fun j => my_fr.at gh409 is_92 rfl) (my_fr.at gh409 is_82 rfl)
                have c431 := (rfl : h409 82 9 = h409 82 9)
                exact w_vret gz_49_140 gm_49 (k0 h409 (gh409) (by omega) (by omega) (by first | exact Lo_h409t430 | exact ⟨st.1, st.2.1, st.2.2.2.2⟩ | exact Or.inl ⟨by omega, zF, st.2.2.1, st.2.2.2.1⟩ | exact Or.inr (Or.inr (Or.inl ⟨by omega, by omega, zC, st.2.2.1, st.2.2.2.1⟩)) | exact Or.inr (Or.inr (Or.inr (Or.inl ⟨by omega, by omega, zW, st.2.2.2.1⟩))) | exact Or.inr (Or.inr (Or.inr (Or.inr (Or.inl ⟨by omega, by omega, zJ, fun _ => st.2.2.1, st.2.2.2.1⟩)))) | exact Or.inr (Or.inr (Or.inr (Or.inr (Or.inr (Or.inl ⟨by omega, by omega, zS, st.2.2.1, st.2.2.2.1⟩))))) | exact ⟨_, _, _, Or.inl ⟨by omega, zF, rfl, rfl⟩⟩ | exact ⟨_, _, _, Or.inr (Or.inr (Or.inl ⟨by omega, by omega, zC, rfl, rfl⟩))⟩ | exact ⟨_, _, _, Or.inr (Or.inr (Or.inr (Or.inl ⟨by omega, by omega, zW, rfl⟩)))⟩ | exact ⟨_, _, _, Or.inr (Or.inr (Or.inr (Or.inr (Or.inl ⟨by omega, by omega, zJ, fun q => absurd q (by omega), rfl⟩))))⟩ | exact ⟨_, _, _, Or.inr (Or.inr (Or.inr (Or.inr (Or.inr (Or.inl ⟨by omega, by omega, zS, rfl, rfl⟩)))))⟩ | exact ⟨0, 0, 0, Or.inr (Or.inl ⟨by omega, by omega, by omega⟩)⟩ | exact ⟨0, 0, 0, Or.inr (Or.inr (Or.inr (Or.inr (Or.inr (Or.inr ⟨by omega, by omega, by omega, by omega, by omega, by omega⟩)))))⟩ | (exfalso; omega) | omega) (by first | exact Lo_h409t430 | exact ⟨st.1, st.2.1, st.2.2.2.2⟩ | exact Or.inl ⟨by omega, zF, st.2.2.1, st.2.2.2.1⟩ | exact Or.inr (Or.inr (Or.inl ⟨by omega, by omega, zC, st.2.2.1, st.2.2.2.1⟩)) | exact Or.inr (Or.inr (Or.inr (Or.inl ⟨by omega, by omega, zW, st.2.2.2.1⟩))) | exact Or.inr (Or.inr (Or.inr (Or.inr (Or.inl ⟨by omega, by omega, zJ, fun _ => st.2.2.1, st.2.2.2.1⟩)))) | exact Or.inr (Or.inr (Or.inr (Or.inr (Or.inr (Or.inl ⟨by omega, by omega, zS, st.2.2.1, st.2.2.2.1⟩))))) | exact ⟨_, _, _, Or.inl ⟨by omega, zF, rfl, rfl⟩⟩ | exact ⟨_, _, _, Or.inr (Or.inr (Or.inl ⟨by omega, by omega, zC, rfl, rfl⟩))⟩ | exact ⟨_, _, _, Or.inr (Or.inr (Or.inr (Or.inl ⟨by omega, by omega, zW, rfl⟩)))⟩ | exact ⟨_, _, _, Or.inr (Or.inr (Or.inr (Or.inr (Or.inl ⟨by omega, by omega, zJ, fun q => absurd q (by omega), rfl⟩))))⟩ | exact ⟨_, _, _, Or.inr (Or.inr (Or.inr (Or.inr (Or.inr (Or.inl ⟨by omega, by omega, zS, rfl, rfl⟩)))))⟩ | exact ⟨0, 0, 0, Or.inr (Or.inl ⟨by omega, by omega, by omega⟩)⟩ | exact ⟨0, 0, 0, Or.inr (Or.inr (Or.inr (Or.inr (Or.inr (Or.inr ⟨by omega, by omega, by omega, by omega, by omega, by omega⟩)))))⟩ | (exfalso; omega) | omega) Ln_h409t414 Sp_h409t415 Al_h409t416 Cu_h409t417)
              ·
                have gh418 : my_fr [(4, 4), (4, 5), (4, 6), (4, 7), (4, 8), (4, 9), (5, 5), (5, 6), (5, 7), (5, 8), (5, 9), (32, -1), (33, -1), (34, -1), (35, -1), (36, -1), (37, -1), (38, -1), (39, -1)] h h418 := my_fr.tr gh396 (frh418.mo rfl)
                show wp l rho (d + 7) 49 121 [(2, 82), (0, 0), (0, 0), (0, 1), (0, 1), (0, 1)] [] h418 Q
                have tE432 : cs h396 = cs h := cs_eq (fun j => my_fr.at gh396 is_92 rfl) (my_fr.at gh396 is_82 rfl)
                rw [tE432] at xp420
                have ps433 : h396 82 7 = (sN (cs h) (h 82 7)) := xc404
                rw [ps433] at xp420
                have ck434 := Cu_s Cu_h418t426
                rw [show cs h418 = cs h from cs_eq (fun j => my_fr.at gh418 is_92 rfl) (my_fr.at gh418 is_82 rfl)] at ck434
                have q2 : h396 82 2 = h 82 2 := my_fr.at frh396 is_82 rfl
                have q11 : h396 (h 82 2) 1 = h (h 82 2) 1 := my_fr.at frh396 n_Ln.2.2.2.1 rfl
                have q13 : h396 (h 82 2) 3 = h (h 82 2) 3 := my_fr.at frh396 n_Ln.2.2.2.1 rfl
                have q14 : h396 (h 82 2) 4 = h (h 82 2) 4 := my_fr.at frh396 n_Ln.2.2.2.1 rfl
                have q19 : h396 (h 82 2) 9 = h (h 82 2) 9 := my_fr.at frh396 n_Ln.2.2.2.1 rfl
                have qc : h396 2 = h 2 := funext (fun j => my_fr.at frh396 is_2 rfl)
                have zW := xp420
                simp only [q2, q11, q13, q14, q19, qc] at zW
                have st := xp421
                unfold Std at st
                simp only [q2, q11, q13, q14, q19, qc] at st
                have Lo_h418t435 : Lo h h418 := Lo_tr Lo_h396 xp422
                refine w_goto (t := 140) gz_49_121 rfl ?_
                have psR : h418 82 7 = h418 82 7 := (rfl : h418 82 7 = h418 82 7)
                have npsR : cs h418 = cs h := cs_eq (fun j => my_fr.at gh418 is_92 rfl) (my_fr.at gh418 is_82 rfl)
                have c436 := w419
                exact w_vret gz_49_140 gm_49 (k1 h418 (gh418) (by omega) (by first | exact Lo_h418t435 | exact ⟨st.1, st.2.1, st.2.2.2.2⟩ | exact Or.inl ⟨by omega, zF, st.2.2.1, st.2.2.2.1⟩ | exact Or.inr (Or.inr (Or.inl ⟨by omega, by omega, zC, st.2.2.1, st.2.2.2.1⟩)) | exact Or.inr (Or.inr (Or.inr (Or.inl ⟨by omega, by omega, zW, st.2.2.2.1⟩))) | exact Or.inr (Or.inr (Or.inr (Or.inr (Or.inl ⟨by omega, by omega, zJ, fun _ => st.2.2.1, st.2.2.2.1⟩)))) | exact Or.inr (Or.inr (Or.inr (Or.inr (Or.inr (Or.inl ⟨by omega, by omega, zS, st.2.2.1, st.2.2.2.1⟩))))) | exact ⟨_, _, _, Or.inl ⟨by omega, zF, rfl, rfl⟩⟩ | exact ⟨_, _, _, Or.inr (Or.inr (Or.inl ⟨by omega, by omega, zC, rfl, rfl⟩))⟩ | exact ⟨_, _, _, Or.inr (Or.inr (Or.inr (Or.inl ⟨by omega, by omega, zW, rfl⟩)))⟩ | exact ⟨_, _, _, Or.inr (Or.inr (Or.inr (Or.inr (Or.inl ⟨by omega, by omega, zJ, fun q => absurd q (by omega), rfl⟩))))⟩ | exact ⟨_, _, _, Or.inr (Or.inr (Or.inr (Or.inr (Or.inr (Or.inl ⟨by omega, by omega, zS, rfl, rfl⟩)))))⟩ | exact ⟨0, 0, 0, Or.inr (Or.inl ⟨by omega, by omega, by omega⟩)⟩ | exact ⟨0, 0, 0, Or.inr (Or.inr (Or.inr (Or.inr (Or.inr (Or.inr ⟨by omega, by omega, by omega, by omega, by omega, by omega⟩)))))⟩ | (exfalso; omega) | omega) (by first | exact Lo_h418t435 | exact ⟨st.1, st.2.1, st.2.2.2.2⟩ | exact Or.inl ⟨by omega, zF, st.2.2.1, st.2.2.2.1⟩ | exact Or.inr (Or.inr (Or.inl ⟨by omega, by omega, zC, st.2.2.1, st.2.2.2.1⟩)) | exact Or.inr (Or.inr (Or.inr (Or.inl ⟨by omega, by omega, zW, st.2.2.2.1⟩))) | exact Or.inr (Or.inr (Or.inr (Or.inr (Or.inl ⟨by omega, by omega, zJ, fun _ => st.2.2.1, st.2.2.2.1⟩)))) | exact Or.inr (Or.inr (Or.inr (Or.inr (Or.inr (Or.inl ⟨by omega, by omega, zS, st.2.2.1, st.2.2.2.1⟩))))) | exact ⟨_, _, _, Or.inl ⟨by omega, zF, rfl, rfl⟩⟩ | exact ⟨_, _, _, Or.inr (Or.inr (Or.inl ⟨by omega, by omega, zC, rfl, rfl⟩))⟩ | exact ⟨_, _, _, Or.inr (Or.inr (Or.inr (Or.inl ⟨by omega, by omega, zW, rfl⟩)))⟩ | exact ⟨_, _, _, Or.inr (Or.inr (Or.inr (Or.inr (Or.inl ⟨by omega, by omega, zJ, fun q => absurd q (by omega), rfl⟩))))⟩ | exact ⟨_, _, _, Or.inr (Or.inr (Or.inr (Or.inr (Or.inr (Or.inl ⟨by omega, by omega, zS, rfl, rfl⟩)))))⟩ | exact ⟨0, 0, 0, Or.inr (Or.inl ⟨by omega, by omega, by omega⟩)⟩ | exact ⟨0, 0, 0, Or.inr (Or.inr (Or.inr (Or.inr (Or.inr (Or.inr ⟨by omega, by omega, by omega, by omega, by omega, by omega⟩)))))⟩ | (exfalso; omega) | omega) (by first | exact Lo_h418t435 | exact ⟨st.1, st.2.1, st.2.2.2.2⟩ | exact Or.inl ⟨by omega, zF, st.2.2.1, st.2.2.2.1⟩ | exact Or.inr (Or.inr (Or.inl ⟨by omega, by omega, zC, st.2.2.1, st.2.2.2.1⟩)) | exact Or.inr (Or.inr (Or.inr (Or.inl ⟨by omega, by omega, zW, st.2.2.2.1⟩))) | exact Or.inr (Or.inr (Or.inr (Or.inr (Or.inl ⟨by omega, by omega, zJ, fun _ => st.2.2.1, st.2.2.2.1⟩)))) | exact Or.inr (Or.inr (Or.inr (Or.inr (Or.inr (Or.inl ⟨by omega, by omega, zS, st.2.2.1, st.2.2.2.1⟩))))) | exact ⟨_, _, _, Or.inl ⟨by omega, zF, rfl, rfl⟩⟩ | exact ⟨_, _, _, Or.inr (Or.inr (Or.inl ⟨by omega, by omega, zC, rfl, rfl⟩))⟩ | exact ⟨_, _, _, Or.inr (Or.inr (Or.inr (Or.inl ⟨by omega, by omega, zW, rfl⟩)))⟩ | exact ⟨_, _, _, Or.inr (Or.inr (Or.inr (Or.inr (Or.inl ⟨by omega, by omega, zJ, fun q => absurd q (by omega), rfl⟩))))⟩ | exact ⟨_, _, _, Or.inr (Or.inr (Or.inr (Or.inr (Or.inr (Or.inl ⟨by omega, by omega, zS, rfl, rfl⟩)))))⟩ | exact ⟨0, 0, 0, Or.inr (Or.inl ⟨by omega, by omega, by omega⟩)⟩ | exact ⟨0, 0, 0, Or.inr (Or.inr (Or.inr (Or.inr (Or.inr (Or.inr ⟨by omega, by omega, by omega, by omega, by omega, by omega⟩)))))⟩ | (exfalso; omega) | omega) Ln_h418t423 Sp_h418t424 Al_h418t425 Cu_h418t426)
            ·
              refine w_aload_n gz_49_81 rfl ?_
              refine w_iconst gz_49_82 (by decide) ?_
              refine w_inv (k := 0) (as := [(0, 5)]) (r := []) (x := 82) (ls0 := [(2, 82), (0, 5)]) gz_49_83 gm_42 rfl is_82 rd_5 rfl rfl rfl rfl rfl ?_
              refine w_aload_n gz_42_0 rfl ?_
              refine v_getI (j := 9) gz_42_1 rfl is_82 rd_5 rfl (fun v437 ev437 pv437 qv437 => ?_)
              have zv437 := ev437.trans cf
              refine w_ifne (t := 20) gz_42_4 rfl (fun u438 => by exfalso; omega) (fun u438 => ?_)
              refine w_aload_n gz_42_7 rfl ?_
              refine w_iload_n gz_42_8 rfl ?_
              refine w_bipush gz_42_9 (by decide) ?_
              refine w_aload_n gz_42_11 rfl ?_
              refine v_getI (j := 7) gz_42_12 rfl is_82 rd_5 rfl (fun v439 ev439 pv439 qv439 => ?_)
              refine w_imul gz_42_15 ⟨by omega, by omega⟩ ?_
              refine w_iadd gz_42_16 ⟨by omega, by omega⟩ ?_
              refine v_putI (j := 9) gz_42_17 rfl is_82 rd_5 rfl (by omega) (by omega) rfl (fun h440 fh440 => ?_)
              have gh440 : my_fr [(4, 4), (4, 5), (4, 6), (4, 7), (4, 8), (4, 9), (5, 5), (5, 6), (5, 7), (5, 8), (5, 9), (32, -1), (33, -1), (34, -1), (35, -1), (36, -1), (37, -1), (38, -1), (39, -1)] h h440 := my_fr.up my_fr.rf is_82 fh440 rfl
              have Ln_h440 : Ln h440 := Ln_ag (my_ag.up fh440 is_82 rfl) n_Ln
              have Sp_h440 : Sp h440 wv := Sp_ag (my_ag.up fh440 is_82 rfl) hwv n_Ln n_Sp
              have Al_h440 : Al h440 := Al_ag (my_ag.up fh440 is_82 rfl) n_Al
              have Cu_h440 : Cu h440 := Cu_ag (my_ag.up fh440 is_82 rfl) n_Cu
              have Lo_h440 : Lo h h440 := Lo_ag (my_ag.up fh440 is_82 rfl) n_Ln (Lo_rf)
              refine w_vret gz_42_20 gm_42 ?_
              show wp l rho (d + 7) 49 86 [(2, 82), (0, 0), (0, 0), (0, 1), (0, 1), (0, 1)] [] h440 Q
              have psR : h440 82 7 = h 82 7 := ((my_up_fld fh440 (by decide)).trans (rfl : h 82 7 = h 82 7))
              have npsR : cs h440 = cs h := cs_eq (fun j => my_fr.at gh440 is_92 rfl) (my_fr.at gh440 is_82 rfl)
              have c441 := (my_up_self fh440)
              exact w_vret gz_49_86 gm_49 (k0 h440 (gh440) (by omega) (by omega) (by first | exact Lo_h440 | exact ⟨st.1, st.2.1, st.2.2.2.2⟩ | exact Or.inl ⟨by omega, zF, st.2.2.1, st.2.2.2.1⟩ | exact Or.inr (Or.inr (Or.inl ⟨by omega, by omega, zC, st.2.2.1, st.2.2.2.1⟩)) | exact Or.inr (Or.inr (Or.inr (Or.inl ⟨by omega, by omega, zW, st.2.2.2.1⟩))) | exact Or.inr (Or.inr (Or.inr (Or.inr (Or.inl ⟨by omega, by omega, zJ, fun _ => st.2.2.1, st.2.2.2.1⟩)))) | exact Or.inr (Or.inr (Or.inr (Or.inr (Or.inr (Or.inl ⟨by omega, by omega, zS, st.2.2.1, st.2.2.2.1⟩))))) | exact ⟨_, _, _, Or.inl ⟨by omega, zF, rfl, rfl⟩⟩ | exact ⟨_, _, _, Or.inr (Or.inr (Or.inl ⟨by omega, by omega, zC, rfl, rfl⟩))⟩ | exact ⟨_, _, _, Or.inr (Or.inr (Or.inr (Or.inl ⟨by omega, by omega, zW, rfl⟩)))⟩ | exact ⟨_, _, _, Or.inr (Or.inr (Or.inr (Or.inr (Or.inl ⟨by omega, by omega, zJ, fun q => absurd q (by omega), rfl⟩))))⟩ | exact ⟨_, _, _, Or.inr (Or.inr (Or.inr (Or.inr (Or.inr (Or.inl ⟨by omega, by omega, zS, rfl, rfl⟩)))))⟩ | exact ⟨0, 0, 0, Or.inr (Or.inl ⟨by omega, by omega, by omega⟩)⟩ | exact ⟨0, 0, 0, Or.inr (Or.inr (Or.inr (Or.inr (Or.inr (Or.inr ⟨by omega, by omega, by omega, by omega, by omega, by omega⟩)))))⟩ | (exfalso; omega) | omega) (by first | exact Lo_h440 | exact ⟨st.1, st.2.1, st.2.2.2.2⟩ | exact Or.inl ⟨by omega, zF, st.2.2.1, st.2.2.2.1⟩ | exact Or.inr (Or.inr (Or.inl ⟨by omega, by omega, zC, st.2.2.1, st.2.2.2.1⟩)) | exact Or.inr (Or.inr (Or.inr (Or.inl ⟨by omega, by omega, zW, st.2.2.2.1⟩))) | exact Or.inr (Or.inr (Or.inr (Or.inr (Or.inl ⟨by omega, by omega, zJ, fun _ => st.2.2.1, st.2.2.2.1⟩)))) | exact Or.inr (Or.inr (Or.inr (Or.inr (Or.inr (Or.inl ⟨by omega, by omega, zS, st.2.2.1, st.2.2.2.1⟩))))) | exact ⟨_, _, _, Or.inl ⟨by omega, zF, rfl, rfl⟩⟩ | exact ⟨_, _, _, Or.inr (Or.inr (Or.inl ⟨by omega, by omega, zC, rfl, rfl⟩))⟩ | exact ⟨_, _, _, Or.inr (Or.inr (Or.inr (Or.inl ⟨by omega, by omega, zW, rfl⟩)))⟩ | exact ⟨_, _, _, Or.inr (Or.inr (Or.inr (Or.inr (Or.inl ⟨by omega, by omega, zJ, fun q => absurd q (by omega), rfl⟩))))⟩ | exact ⟨_, _, _, Or.inr (Or.inr (Or.inr (Or.inr (Or.inr (Or.inl ⟨by omega, by omega, zS, rfl, rfl⟩)))))⟩ | exact ⟨0, 0, 0, Or.inr (Or.inl ⟨by omega, by omega, by omega⟩)⟩ | exact ⟨0, 0, 0, Or.inr (Or.inr (Or.inr (Or.inr (Or.inr (Or.inr ⟨by omega, by omega, by omega, by omega, by omega, by omega⟩)))))⟩ | (exfalso; omega) | omega) Ln_h440 Sp_h440 Al_h440 Cu_h440)
    ·
      show wp l rho (d + 7) 49 13 [(2, 82), (0, 0), (9, 0), (9, 0), (9, 0), (9, 0)] [(0, 1)] h Q
      rw [show wc ((5 : Nat) : Int) = 4904 from by decide] at xp11
      refine w_istore_n (ls' := [(2, 82), (0, 0), (0, 1), (9, 0), (9, 0), (9, 0)]) gz_49_13 gm_49 rfl rfl rfl ?_
      refine w_aload_n gz_49_14 rfl ?_
      refine w_ldcS gz_49_15 (by decide) ?_
      refine w_inv (k := 1) (as := [(3, ((6 : Nat) : Int))]) (r := []) (x := 82) (ls0 := [(2, 82), (3, ((6 : Nat) : Int)), (9, 0)]) gz_49_17 gm_41 rfl is_82 rd_5 rfl rfl rfl rfl rfl (c_Reader_isWord9_f0 (d := (d + 2)) (x1 := ((6 : Nat) : Int)) (by decide) (cf.trans (by omega)) n_Cu (fun w442 xp443 => ?_) (fun w444 w445 xp446 => ?_))
      ·
        show wp l rho (d + 7) 49 20 [(2, 82), (0, 0), (0, 1), (9, 0), (9, 0), (9, 0)] [(0, 0)] h Q
        rw [show wc ((6 : Nat) : Int) = 8422 from by decide] at xp443
        refine w_istore_n (ls' := [(2, 82), (0, 0), (0, 1), (0, 0), (9, 0), (9, 0)]) gz_49_20 gm_49 rfl rfl rfl ?_
        refine w_aload_n gz_49_21 rfl ?_
        refine w_ldcS gz_49_22 (by decide) ?_
        refine w_inv (k := 1) (as := [(3, ((7 : Nat) : Int))]) (r := []) (x := 82) (ls0 := [(2, 82), (3, ((7 : Nat) : Int)), (9, 0)]) gz_49_24 gm_41 rfl is_82 rd_5 rfl rfl rfl rfl rfl (c_Reader_isWord9_f0 (d := (d + 2)) (x1 := ((7 : Nat) : Int)) (by decide) (cf.trans (by omega)) n_Cu (fun w447 xp448 => ?_) (fun w449 w450 xp451 => ?_))
        ·
          show wp l rho (d + 7) 49 27 [(2, 82), (0, 0), (0, 1), (0, 0), (9, 0), (9, 0)] [(0, 0)] h Q
          rw [show wc ((7 : Nat) : Int) = 527412 from by decide] at xp448
          refine w_istore (ls' := [(2, 82), (0, 0), (0, 1), (0, 0), (0, 0), (9, 0)]) gz_49_27 gm_49 rfl rfl rfl ?_
          refine w_aload_n gz_49_29 rfl ?_
          refine w_ldcS gz_49_30 (by decide) ?_
          refine w_inv (k := 1) (as := [(3, ((8 : Nat) : Int))]) (r := []) (x := 82) (ls0 := [(2, 82), (3, ((8 : Nat) : Int)), (9, 0)]) gz_49_32 gm_41 rfl is_82 rd_5 rfl rfl rfl rfl rfl (c_Reader_isWord9_f0 (d := (d + 2)) (x1 := ((8 : Nat) : Int)) (by decide) (cf.trans (by omega)) n_Cu (fun w452 xp453 => ?_) (fun w454 w455 xp456 => ?_))
          ·
            show wp l rho (d + 7) 49 35 [(2, 82), (0, 0), (0, 1), (0, 0), (0, 0), (9, 0)] [(0, 0)] h Q
            rw [show wc ((8 : Nat) : Int) = 26801 from by decide] at xp453
            refine w_istore (ls' := [(2, 82), (0, 0), (0, 1), (0, 0), (0, 0), (0, 0)]) gz_49_35 gm_49 rfl rfl rfl ?_
            refine w_iload_n gz_49_37 rfl ?_
            refine w_ifne (t := 65) gz_49_38 rfl (fun u457 => by exfalso; omega) (fun u457 => ?_)
            refine w_iload_n gz_49_41 rfl ?_
            refine w_ifne (t := 65) gz_49_42 rfl (fun u458 => ?_) (fun u458 => by exfalso; omega)
            refine w_iload_n gz_49_65 rfl ?_
            refine w_ifne (t := 87) gz_49_66 rfl (fun u459 => by exfalso; omega) (fun u459 => ?_)
            refine w_aload_n gz_49_69 rfl ?_
            refine v_getR (j := 2) gz_49_70 rfl is_82 rd_5 rfl (fun v460 ev460 tv460 => ?_)
            have sE73 : v460 = h 82 2 := by first | assumption | omega
            refine v_getI (j := 9) gz_49_73 rfl tv460 rd_4 rfl (fun v461 ev461 pv461 qv461 => ?_)
            have c76 : v461 = h (h 82 2) 9 := by rw [← sE73]; omega
            refine w_bipush gz_49_76 (by decide) ?_
            refine w_iclt (t := 87) gz_49_78 rfl (fun u462 => ?_) (fun u462 => ?_)
            ·
              have St5_ht463 : St5 h := ⟨by subst_vars; omega, by subst_vars; omega⟩
              refine w_aload_n gz_49_87 rfl ?_
              refine w_inv (k := 2) (as := []) (r := []) (x := 82) (ls0 := [(2, 82), (9, 0), (9, 0)]) gz_49_88 gm_37 rfl is_82 rd_5 rfl rfl rfl rfl rfl (c_Reader_nextToken9_f0 (d := (d + 5))  (cf.trans (by omega)) n_Al (fun h464 frh464 w465 w466 w467 xp468 xp469 Al_h464t470 Cu_h464t471 => ?_))
              have gh464 : my_fr [(4, 4), (4, 5), (4, 6), (4, 7), (4, 8), (4, 9), (5, 5), (5, 6), (5, 7), (5, 8), (5, 9), (32, -1), (33, -1), (34, -1), (35, -1), (36, -1), (37, -1), (38, -1), (39, -1)] h h464 := my_fr.tr my_fr.rf (frh464.mo rfl)
              have Ln_h464 : Ln h464 := Ln_ag (my_ag.fr frh464 rfl) n_Ln
              have Sp_h464 : Sp h464 wv := Sp_ag (my_ag.fr frh464 rfl) hwv n_Ln n_Sp
              have Lo_h464 : Lo h h464 := Lo_ag (my_ag.fr frh464 rfl) n_Ln (Lo_rf)
              have St5_h464 : St5 h464 := St5_ag (my_ag.fr frh464 rfl) n_Ln St5_ht463
              show wp l rho (d + 7) 49 91 [(2, 82), (0, 0), (0, 1), (0, 0), (0, 0), (0, 0)] [] h464 Q
              have xc472 := xp468 n_Cu
              have ck473 := Cu_s Cu_h464t471
              rw [show cs h464 = cs h from cs_eq (fun j => my_fr.at gh464 is_92 rfl) (my_fr.at gh464 is_82 rfl)] at ck473
              rw [show h464 82 7 = (sN (cs h) (h 82 7)) from xc472] at ck473
              refine w_iload_n gz_49_91 rfl ?_
              refine w_ifeq (t := 102) gz_49_92 rfl (fun u474 => ?_) (fun u474 => by exfalso; omega)
              refine w_iload_n gz_49_102 rfl ?_
              refine w_ifeq (t := 113) gz_49_103 rfl (fun u475 => by exfalso; omega) (fun u475 => ?_)
              refine w_aload_n gz_49_106 rfl ?_
              refine w_inv (k := 3) (as := []) (r := []) (x := 82) (ls0 := [(2, 82), (9, 0), (9, 0), (9, 0)]) gz_49_107 gm_52 rfl is_82 rd_5 rfl rfl rfl rfl rfl (c_Reader_readCut9_f0 (d := (d + 1))  (wv := wv) (((my_fr.at frh464 is_82 rfl).trans cf).trans (by omega)) (by first | assumption | omega) (by first | assumption | omega) Ln_h464 Sp_h464 St5_h464 Al_h464t470 Cu_h464t471 (fun h476 frh476 w477 w478 xp479 Ln_h476t480 Sp_h476t481 Al_h476t482 Cu_h476t483 => ?_) (fun h484 frh484 w485 xp486 xp487 Ln_h484t488 Sp_h484t489 Al_h484t490 Cu_h484t491 => ?_))
              ·
                have gh476 : my_fr [(4, 4), (4, 5), (4, 6), (4, 7), (4, 8), (4, 9), (5, 5), (5, 6), (5, 7), (5, 8), (5, 9), (32, -1), (33, -1), (34, -1), (35, -1), (36, -1), (37, -1), (38, -1), (39, -1)] h h476 := my_fr.tr gh464 (frh476.mo rfl)
                have Lo_h476 : Lo h h476 := Lo_ag (my_ag.fr frh476 rfl) Ln_h464 Lo_h464
                show wp l rho (d + 7) 49 110 [(2, 82), (0, 0), (0, 1), (0, 0), (0, 0), (0, 0)] [] h476 Q
                have tE492 : cs h464 = cs h := cs_eq (fun j => my_fr.at gh464 is_92 rfl) (my_fr.at gh464 is_82 rfl)
                rw [tE492] at xp479
                have ps493 : h464 82 7 = (sN (cs h) (h 82 7)) := xc472
                rw [ps493] at xp479
                have ck494 := Cu_s Cu_h476t483
                rw [show cs h476 = cs h from cs_eq (fun j => my_fr.at gh476 is_92 rfl) (my_fr.at gh476 is_82 rfl)] at ck494
                have q2 : h464 82 2 = h 82 2 := my_fr.at frh464 is_82 rfl
                have q11 : h464 (h 82 2) 1 = h (h 82 2) 1 := my_fr.at frh464 n_Ln.2.2.2.1 rfl
                have q13 : h464 (h 82 2) 3 = h (h 82 2) 3 := my_fr.at frh464 n_Ln.2.2.2.1 rfl
                have q14 : h464 (h 82 2) 4 = h (h 82 2) 4 := my_fr.at frh464 n_Ln.2.2.2.1 rfl
                have q19 : h464 (h 82 2) 9 = h (h 82 2) 9 := my_fr.at frh464 n_Ln.2.2.2.1 rfl
                have qc : h464 2 = h 2 := funext (fun j => my_fr.at frh464 is_2 rfl)
                have zC := xp479
                simp only [q2, q11, q13, q14, q19, qc] at zC
                refine w_goto (t := 140) gz_49_110 rfl ?_
                have psR : h476 82 7 = h476 82 7 := (rfl : h476 82 7 = h476 82 7)
                have npsR : cs h476 = cs h := cs_eq (fun j => my_fr.at gh476 is_92 rfl) (my_fr.at gh476 is_82 rfl)
                have c495 := (rfl : h476 82 9 = h476 82 9)
                exact w_vret gz_49_140 gm_49 (k0 h476 (gh476) (by omega) (by omega) (by first | exact Lo_h476 | exact ⟨st.1, st.2.1, st.2.2.2.2⟩ | exact Or.inl ⟨by omega, zF, st.2.2.1, st.2.2.2.1⟩ | exact Or.inr (Or.inr (Or.inl ⟨by omega, by omega, zC, st.2.2.1, st.2.2.2.1⟩)) | exact Or.inr (Or.inr (Or.inr (Or.inl ⟨by omega, by omega, zW, st.2.2.2.1⟩))) | exact Or.inr (Or.inr (Or.inr (Or.inr (Or.inl ⟨by omega, by omega, zJ, fun _ => st.2.2.1, st.2.2.2.1⟩)))) | exact Or.inr (Or.inr (Or.inr (Or.inr (Or.inr (Or.inl ⟨by omega, by omega, zS, st.2.2.1, st.2.2.2.1⟩))))) | exact ⟨_, _, _, Or.inl ⟨by omega, zF, rfl, rfl⟩⟩ | exact ⟨_, _, _, Or.inr (Or.inr (Or.inl ⟨by omega, by omega, zC, rfl, rfl⟩))⟩ | exact ⟨_, _, _, Or.inr (Or.inr (Or.inr (Or.inl ⟨by omega, by omega, zW, rfl⟩)))⟩ | exact ⟨_, _, _, Or.inr (Or.inr (Or.inr (Or.inr (Or.inl ⟨by omega, by omega, zJ, fun q => absurd q (by omega), rfl⟩))))⟩ | exact ⟨_, _, _, Or.inr (Or.inr (Or.inr (Or.inr (Or.inr (Or.inl ⟨by omega, by omega, zS, rfl, rfl⟩)))))⟩ | exact ⟨0, 0, 0, Or.inr (Or.inl ⟨by omega, by omega, by omega⟩)⟩ | exact ⟨0, 0, 0, Or.inr (Or.inr (Or.inr (Or.inr (Or.inr (Or.inr ⟨by omega, by omega, by omega, by omega, by omega, by omega⟩)))))⟩ | (exfalso; omega) | omega) (by first | exact Lo_h476 | exact ⟨st.1, st.2.1, st.2.2.2.2⟩ | exact Or.inl ⟨by omega, zF, st.2.2.1, st.2.2.2.1⟩ | exact Or.inr (Or.inr (Or.inl ⟨by omega, by omega, zC, st.2.2.1, st.2.2.2.1⟩)) | exact Or.inr (Or.inr (Or.inr (Or.inl ⟨by omega, by omega, zW, st.2.2.2.1⟩))) | exact Or.inr (Or.inr (Or.inr (Or.inr (Or.inl ⟨by omega, by omega, zJ, fun _ => st.2.2.1, st.2.2.2.1⟩)))) | exact Or.inr (Or.inr (Or.inr (Or.inr (Or.inr (Or.inl ⟨by omega, by omega, zS, st.2.2.1, st.2.2.2.1⟩))))) | exact ⟨_, _, _, Or.inl ⟨by omega, zF, rfl, rfl⟩⟩ | exact ⟨_, _, _, Or.inr (Or.inr (Or.inl ⟨by omega, by omega, zC, rfl, rfl⟩))⟩ | exact ⟨_, _, _, Or.inr (Or.inr (Or.inr (Or.inl ⟨by omega, by omega, zW, rfl⟩)))⟩ | exact ⟨_, _, _, Or.inr (Or.inr (Or.inr (Or.inr (Or.inl ⟨by omega, by omega, zJ, fun q => absurd q (by omega), rfl⟩))))⟩ | exact ⟨_, _, _, Or.inr (Or.inr (Or.inr (Or.inr (Or.inr (Or.inl ⟨by omega, by omega, zS, rfl, rfl⟩)))))⟩ | exact ⟨0, 0, 0, Or.inr (Or.inl ⟨by omega, by omega, by omega⟩)⟩ | exact ⟨0, 0, 0, Or.inr (Or.inr (Or.inr (Or.inr (Or.inr (Or.inr ⟨by omega, by omega, by omega, by omega, by omega, by omega⟩)))))⟩ | (exfalso; omega) | omega) Ln_h476t480 Sp_h476t481 Al_h476t482 Cu_h476t483)
              ·
                have gh484 : my_fr [(4, 4), (4, 5), (4, 6), (4, 7), (4, 8), (4, 9), (5, 5), (5, 6), (5, 7), (5, 8), (5, 9), (32, -1), (33, -1), (34, -1), (35, -1), (36, -1), (37, -1), (38, -1), (39, -1)] h h484 := my_fr.tr gh464 (frh484.mo rfl)
                have Lo_h484 : Lo h h484 := Lo_ag (my_ag.fr frh484 rfl) Ln_h464 Lo_h464
                show wp l rho (d + 7) 49 110 [(2, 82), (0, 0), (0, 1), (0, 0), (0, 0), (0, 0)] [] h484 Q
                have tE496 : cs h464 = cs h := cs_eq (fun j => my_fr.at gh464 is_92 rfl) (my_fr.at gh464 is_82 rfl)
                rw [tE496] at xp486
                have ps497 : h464 82 7 = (sN (cs h) (h 82 7)) := xc472
                rw [ps497] at xp486
                have ck498 := Cu_s Cu_h484t491
                rw [show cs h484 = cs h from cs_eq (fun j => my_fr.at gh484 is_92 rfl) (my_fr.at gh484 is_82 rfl)] at ck498
                have q2 : h464 82 2 = h 82 2 := my_fr.at frh464 is_82 rfl
                have q11 : h464 (h 82 2) 1 = h (h 82 2) 1 := my_fr.at frh464 n_Ln.2.2.2.1 rfl
                have q13 : h464 (h 82 2) 3 = h (h 82 2) 3 := my_fr.at frh464 n_Ln.2.2.2.1 rfl
                have q14 : h464 (h 82 2) 4 = h (h 82 2) 4 := my_fr.at frh464 n_Ln.2.2.2.1 rfl
                have q19 : h464 (h 82 2) 9 = h (h 82 2) 9 := my_fr.at frh464 n_Ln.2.2.2.1 rfl
                have qc : h464 2 = h 2 := funext (fun j => my_fr.at frh464 is_2 rfl)
                have zC := xp486
                simp only [q2, q11, q13, q14, q19, qc] at zC
                have st := xp487
                unfold Std at st
                simp only [q2, q11, q13, q14, q19, qc] at st
                refine w_goto (t := 140) gz_49_110 rfl ?_
                have psR : h484 82 7 = h484 82 7 := (rfl : h484 82 7 = h484 82 7)
                have npsR : cs h484 = cs h := cs_eq (fun j => my_fr.at gh484 is_92 rfl) (my_fr.at gh484 is_82 rfl)
                have c499 := w485
                exact w_vret gz_49_140 gm_49 (k1 h484 (gh484) (by omega) (by first | exact Lo_h484 | exact ⟨st.1, st.2.1, st.2.2.2.2⟩ | exact Or.inl ⟨by omega, zF, st.2.2.1, st.2.2.2.1⟩ | exact Or.inr (Or.inr (Or.inl ⟨by omega, by omega, zC, st.2.2.1, st.2.2.2.1⟩)) | exact Or.inr (Or.inr (Or.inr (Or.inl ⟨by omega, by omega, zW, st.2.2.2.1⟩))) | exact Or.inr (Or.inr (Or.inr (Or.inr (Or.inl ⟨by omega, by omega, zJ, fun _ => st.2.2.1, st.2.2.2.1⟩)))) | exact Or.inr (Or.inr (Or.inr (Or.inr (Or.inr (Or.inl ⟨by omega, by omega, zS, st.2.2.1, st.2.2.2.1⟩))))) | exact ⟨_, _, _, Or.inl ⟨by omega, zF, rfl, rfl⟩⟩ | exact ⟨_, _, _, Or.inr (Or.inr (Or.inl ⟨by omega, by omega, zC, rfl, rfl⟩))⟩ | exact ⟨_, _, _, Or.inr (Or.inr (Or.inr (Or.inl ⟨by omega, by omega, zW, rfl⟩)))⟩ | exact ⟨_, _, _, Or.inr (Or.inr (Or.inr (Or.inr (Or.inl ⟨by omega, by omega, zJ, fun q => absurd q (by omega), rfl⟩))))⟩ | exact ⟨_, _, _, Or.inr (Or.inr (Or.inr (Or.inr (Or.inr (Or.inl ⟨by omega, by omega, zS, rfl, rfl⟩)))))⟩ | exact ⟨0, 0, 0, Or.inr (Or.inl ⟨by omega, by omega, by omega⟩)⟩ | exact ⟨0, 0, 0, Or.inr (Or.inr (Or.inr (Or.inr (Or.inr (Or.inr ⟨by omega, by omega, by omega, by omega, by omega, by omega⟩)))))⟩ | (exfalso; omega) | omega) (by first | exact Lo_h484 | exact ⟨st.1, st.2.1, st.2.2.2.2⟩ | exact Or.inl ⟨by omega, zF, st.2.2.1, st.2.2.2.1⟩ | exact Or.inr (Or.inr (Or.inl ⟨by omega, by omega, zC, st.2.2.1, st.2.2.2.1⟩)) | exact Or.inr (Or.inr (Or.inr (Or.inl ⟨by omega, by omega, zW, st.2.2.2.1⟩))) | exact Or.inr (Or.inr (Or.inr (Or.inr (Or.inl ⟨by omega, by omega, zJ, fun _ => st.2.2.1, st.2.2.2.1⟩)))) | exact Or.inr (Or.inr (Or.inr (Or.inr (Or.inr (Or.inl ⟨by omega, by omega, zS, st.2.2.1, st.2.2.2.1⟩))))) | exact ⟨_, _, _, Or.inl ⟨by omega, zF, rfl, rfl⟩⟩ | exact ⟨_, _, _, Or.inr (Or.inr (Or.inl ⟨by omega, by omega, zC, rfl, rfl⟩))⟩ | exact ⟨_, _, _, Or.inr (Or.inr (Or.inr (Or.inl ⟨by omega, by omega, zW, rfl⟩)))⟩ | exact ⟨_, _, _, Or.inr (Or.inr (Or.inr (Or.inr (Or.inl ⟨by omega, by omega, zJ, fun q => absurd q (by omega), rfl⟩))))⟩ | exact ⟨_, _, _, Or.inr (Or.inr (Or.inr (Or.inr (Or.inr (Or.inl ⟨by omega, by omega, zS, rfl, rfl⟩)))))⟩ | exact ⟨0, 0, 0, Or.inr (Or.inl ⟨by omega, by omega, by omega⟩)⟩ | exact ⟨0, 0, 0, Or.inr (Or.inr (Or.inr (Or.inr (Or.inr (Or.inr ⟨by omega, by omega, by omega, by omega, by omega, by omega⟩)))))⟩ | (exfalso; omega) | omega) (by first | exact Lo_h484 | exact ⟨st.1, st.2.1, st.2.2.2.2⟩ | exact Or.inl ⟨by omega, zF, st.2.2.1, st.2.2.2.1⟩ | exact Or.inr (Or.inr (Or.inl ⟨by omega, by omega, zC, st.2.2.1, st.2.2.2.1⟩)) | exact Or.inr (Or.inr (Or.inr (Or.inl ⟨by omega, by omega, zW, st.2.2.2.1⟩))) | exact Or.inr (Or.inr (Or.inr (Or.inr (Or.inl ⟨by omega, by omega, zJ, fun _ => st.2.2.1, st.2.2.2.1⟩)))) | exact Or.inr (Or.inr (Or.inr (Or.inr (Or.inr (Or.inl ⟨by omega, by omega, zS, st.2.2.1, st.2.2.2.1⟩))))) | exact ⟨_, _, _, Or.inl ⟨by omega, zF, rfl, rfl⟩⟩ | exact ⟨_, _, _, Or.inr (Or.inr (Or.inl ⟨by omega, by omega, zC, rfl, rfl⟩))⟩ | exact ⟨_, _, _, Or.inr (Or.inr (Or.inr (Or.inl ⟨by omega, by omega, zW, rfl⟩)))⟩ | exact ⟨_, _, _, Or.inr (Or.inr (Or.inr (Or.inr (Or.inl ⟨by omega, by omega, zJ, fun q => absurd q (by omega), rfl⟩))))⟩ | exact ⟨_, _, _, Or.inr (Or.inr (Or.inr (Or.inr (Or.inr (Or.inl ⟨by omega, by omega, zS, rfl, rfl⟩)))))⟩ | exact ⟨0, 0, 0, Or.inr (Or.inl ⟨by omega, by omega, by omega⟩)⟩ | exact ⟨0, 0, 0, Or.inr (Or.inr (Or.inr (Or.inr (Or.inr (Or.inr ⟨by omega, by omega, by omega, by omega, by omega, by omega⟩)))))⟩ | (exfalso; omega) | omega) Ln_h484t488 Sp_h484t489 Al_h484t490 Cu_h484t491)
            ·
              refine w_aload_n gz_49_81 rfl ?_
              refine w_iconst gz_49_82 (by decide) ?_
              refine w_inv (k := 0) (as := [(0, 5)]) (r := []) (x := 82) (ls0 := [(2, 82), (0, 5)]) gz_49_83 gm_42 rfl is_82 rd_5 rfl rfl rfl rfl rfl ?_
              refine w_aload_n gz_42_0 rfl ?_
              refine v_getI (j := 9) gz_42_1 rfl is_82 rd_5 rfl (fun v500 ev500 pv500 qv500 => ?_)
              have zv500 := ev500.trans cf
              refine w_ifne (t := 20) gz_42_4 rfl (fun u501 => by exfalso; omega) (fun u501 => ?_)
              refine w_aload_n gz_42_7 rfl ?_
              refine w_iload_n gz_42_8 rfl ?_
              refine w_bipush gz_42_9 (by decide) ?_
              refine w_aload_n gz_42_11 rfl ?_
              refine v_getI (j := 7) gz_42_12 rfl is_82 rd_5 rfl (fun v502 ev502 pv502 qv502 => ?_)
              refine w_imul gz_42_15 ⟨by omega, by omega⟩ ?_
              refine w_iadd gz_42_16 ⟨by omega, by omega⟩ ?_
              refine v_putI (j := 9) gz_42_17 rfl is_82 rd_5 rfl (by omega) (by omega) rfl (fun h503 fh503 => ?_)
              have gh503 : my_fr [(4, 4), (4, 5), (4, 6), (4, 7), (4, 8), (4, 9), (5, 5), (5, 6), (5, 7), (5, 8), (5, 9), (32, -1), (33, -1), (34, -1), (35, -1), (36, -1), (37, -1), (38, -1), (39, -1)] h h503 := my_fr.up my_fr.rf is_82 fh503 rfl
              have Ln_h503 : Ln h503 := Ln_ag (my_ag.up fh503 is_82 rfl) n_Ln
              have Sp_h503 : Sp h503 wv := Sp_ag (my_ag.up fh503 is_82 rfl) hwv n_Ln n_Sp
              have Al_h503 : Al h503 := Al_ag (my_ag.up fh503 is_82 rfl) n_Al
              have Cu_h503 : Cu h503 := Cu_ag (my_ag.up fh503 is_82 rfl) n_Cu
              have Lo_h503 : Lo h h503 := Lo_ag (my_ag.up fh503 is_82 rfl) n_Ln (Lo_rf)
              refine w_vret gz_42_20 gm_42 ?_
              show wp l rho (d + 7) 49 86 [(2, 82), (0, 0), (0, 1), (0, 0), (0, 0), (0, 0)] [] h503 Q
              have psR : h503 82 7 = h 82 7 := ((my_up_fld fh503 (by decide)).trans (rfl : h 82 7 = h 82 7))
              have npsR : cs h503 = cs h := cs_eq (fun j => my_fr.at gh503 is_92 rfl) (my_fr.at gh503 is_82 rfl)
              have c504 := (my_up_self fh503)
              exact w_vret gz_49_86 gm_49 (k0 h503 (gh503) (by omega) (by omega) (by first | exact Lo_h503 | exact ⟨st.1, st.2.1, st.2.2.2.2⟩ | exact Or.inl ⟨by omega, zF, st.2.2.1, st.2.2.2.1⟩ | exact Or.inr (Or.inr (Or.inl ⟨by omega, by omega, zC, st.2.2.1, st.2.2.2.1⟩)) | exact Or.inr (Or.inr (Or.inr (Or.inl ⟨by omega, by omega, zW, st.2.2.2.1⟩))) | exact Or.inr (Or.inr (Or.inr (Or.inr (Or.inl ⟨by omega, by omega, zJ, fun _ => st.2.2.1, st.2.2.2.1⟩)))) | exact Or.inr (Or.inr (Or.inr (Or.inr (Or.inr (Or.inl ⟨by omega, by omega, zS, st.2.2.1, st.2.2.2.1⟩))))) | exact ⟨_, _, _, Or.inl ⟨by omega, zF, rfl, rfl⟩⟩ | exact ⟨_, _, _, Or.inr (Or.inr (Or.inl ⟨by omega, by omega, zC, rfl, rfl⟩))⟩ | exact ⟨_, _, _, Or.inr (Or.inr (Or.inr (Or.inl ⟨by omega, by omega, zW, rfl⟩)))⟩ | exact ⟨_, _, _, Or.inr (Or.inr (Or.inr (Or.inr (Or.inl ⟨by omega, by omega, zJ, fun q => absurd q (by omega), rfl⟩))))⟩ | exact ⟨_, _, _, Or.inr (Or.inr (Or.inr (Or.inr (Or.inr (Or.inl ⟨by omega, by omega, zS, rfl, rfl⟩)))))⟩ | exact ⟨0, 0, 0, Or.inr (Or.inl ⟨by omega, by omega, by omega⟩)⟩ | exact ⟨0, 0, 0, Or.inr (Or.inr (Or.inr (Or.inr (Or.inr (Or.inr ⟨by omega, by omega, by omega, by omega, by omega, by omega⟩)))))⟩ | (exfalso; omega) | omega) (by first | exact Lo_h503 | exact ⟨st.1, st.2.1, st.2.2.2.2⟩ | exact Or.inl ⟨by omega, zF, st.2.2.1, st.2.2.2.1⟩ | exact Or.inr (Or.inr (Or.inl ⟨by omega, by omega, zC, st.2.2.1, st.2.2.2.1⟩)) | exact Or.inr (Or.inr (Or.inr (Or.inl ⟨by omega, by omega, zW, st.2.2.2.1⟩))) | exact Or.inr (Or.inr (Or.inr (Or.inr (Or.inl ⟨by omega, by omega, zJ, fun _ => st.2.2.1, st.2.2.2.1⟩)))) | exact Or.inr (Or.inr (Or.inr (Or.inr (Or.inr (Or.inl ⟨by omega, by omega, zS, st.2.2.1, st.2.2.2.1⟩))))) | exact ⟨_, _, _, Or.inl ⟨by omega, zF, rfl, rfl⟩⟩ | exact ⟨_, _, _, Or.inr (Or.inr (Or.inl ⟨by omega, by omega, zC, rfl, rfl⟩))⟩ | exact ⟨_, _, _, Or.inr (Or.inr (Or.inr (Or.inl ⟨by omega, by omega, zW, rfl⟩)))⟩ | exact ⟨_, _, _, Or.inr (Or.inr (Or.inr (Or.inr (Or.inl ⟨by omega, by omega, zJ, fun q => absurd q (by omega), rfl⟩))))⟩ | exact ⟨_, _, _, Or.inr (Or.inr (Or.inr (Or.inr (Or.inr (Or.inl ⟨by omega, by omega, zS, rfl, rfl⟩)))))⟩ | exact ⟨0, 0, 0, Or.inr (Or.inl ⟨by omega, by omega, by omega⟩)⟩ | exact ⟨0, 0, 0, Or.inr (Or.inr (Or.inr (Or.inr (Or.inr (Or.inr ⟨by omega, by omega, by omega, by omega, by omega, by omega⟩)))))⟩ | (exfalso; omega) | omega) Ln_h503 Sp_h503 Al_h503 Cu_h503)
          ·
            show wp l rho (d + 7) 49 35 [(2, 82), (0, 0), (0, 1), (0, 0), (0, 0), (9, 0)] [(0, 1)] h Q
            rw [show wc ((8 : Nat) : Int) = 26801 from by decide] at xp456
            refine w_istore (ls' := [(2, 82), (0, 0), (0, 1), (0, 0), (0, 0), (0, 1)]) gz_49_35 gm_49 rfl rfl rfl ?_
            refine w_iload_n gz_49_37 rfl ?_
            refine w_ifne (t := 65) gz_49_38 rfl (fun u505 => by exfalso; omega) (fun u505 => ?_)
            refine w_iload_n gz_49_41 rfl ?_
            refine w_ifne (t := 65) gz_49_42 rfl (fun u506 => ?_) (fun u506 => by exfalso; omega)
            refine w_iload_n gz_49_65 rfl ?_
            refine w_ifne (t := 87) gz_49_66 rfl (fun u507 => by exfalso; omega) (fun u507 => ?_)
            refine w_aload_n gz_49_69 rfl ?_
            refine v_getR (j := 2) gz_49_70 rfl is_82 rd_5 rfl (fun v508 ev508 tv508 => ?_)
            have sE73 : v508 = h 82 2 := by first | assumption | omega
            refine v_getI (j := 9) gz_49_73 rfl tv508 rd_4 rfl (fun v509 ev509 pv509 qv509 => ?_)
            have c76 : v509 = h (h 82 2) 9 := by rw [← sE73]; omega
            refine w_bipush gz_49_76 (by decide) ?_
            refine w_iclt (t := 87) gz_49_78 rfl (fun u510 => ?_) (fun u510 => ?_)
            ·
              have St5_ht511 : St5 h := ⟨by subst_vars; omega, by subst_vars; omega⟩
              refine w_aload_n gz_49_87 rfl ?_
              refine w_inv (k := 2) (as := []) (r := []) (x := 82) (ls0 := [(2, 82), (9, 0), (9, 0)]) gz_49_88 gm_37 rfl is_82 rd_5 rfl rfl rfl rfl rfl (c_Reader_nextToken9_f0 (d := (d + 5))  (cf.trans (by omega)) n_Al (fun h512 frh512 w513 w514 w515 xp516 xp517 Al_h512t518 Cu_h512t519 => ?_))
              have gh512 : my_fr [(4, 4), (4, 5), (4, 6), (4, 7), (4, 8), (4, 9), (5, 5), (5, 6), (5, 7), (5, 8), (5, 9), (32, -1), (33, -1), (34, -1), (35, -1), (36, -1), (37, -1), (38, -1), (39, -1)] h h512 := my_fr.tr my_fr.rf (frh512.mo rfl)
              have Ln_h512 : Ln h512 := Ln_ag (my_ag.fr frh512 rfl) n_Ln
              have Sp_h512 : Sp h512 wv := Sp_ag (my_ag.fr frh512 rfl) hwv n_Ln n_Sp
              have Lo_h512 : Lo h h512 := Lo_ag (my_ag.fr frh512 rfl) n_Ln (Lo_rf)
              have St5_h512 : St5 h512 := St5_ag (my_ag.fr frh512 rfl) n_Ln St5_ht511
              show wp l rho (d + 7) 49 91 [(2, 82), (0, 0), (0, 1), (0, 0), (0, 0), (0, 1)] [] h512 Q
              have xc520 := xp516 n_Cu
              have ck521 := Cu_s Cu_h512t519
              rw [show cs h512 = cs h from cs_eq (fun j => my_fr.at gh512 is_92 rfl) (my_fr.at gh512 is_82 rfl)] at ck521
              rw [show h512 82 7 = (sN (cs h) (h 82 7)) from xc520] at ck521
              refine w_iload_n gz_49_91 rfl ?_
              refine w_ifeq (t := 102) gz_49_92 rfl (fun u522 => ?_) (fun u522 => by exfalso; omega)
              refine w_iload_n gz_49_102 rfl ?_
              refine w_ifeq (t := 113) gz_49_103 rfl (fun u523 => by exfalso; omega) (fun u523 => ?_)
              refine w_aload_n gz_49_106 rfl ?_
              refine w_inv (k := 3) (as := []) (r := []) (x := 82) (ls0 := [(2, 82), (9, 0), (9, 0), (9, 0)]) gz_49_107 gm_52 rfl is_82 rd_5 rfl rfl rfl rfl rfl (c_Reader_readCut9_f0 (d := (d + 1))  (wv := wv) (((my_fr.at frh512 is_82 rfl).trans cf).trans (by omega)) (by first | assumption | omega) (by first | assumption | omega) Ln_h512 Sp_h512 St5_h512 Al_h512t518 Cu_h512t519 (fun h524 frh524 w525 w526 xp527 Ln_h524t528 Sp_h524t529 Al_h524t530 Cu_h524t531 => ?_) (fun h532 frh532 w533 xp534 xp535 Ln_h532t536 Sp_h532t537 Al_h532t538 Cu_h532t539 => ?_))
              ·
                have gh524 : my_fr [(4, 4), (4, 5), (4, 6), (4, 7), (4, 8), (4, 9), (5, 5), (5, 6), (5, 7), (5, 8), (5, 9), (32, -1), (33, -1), (34, -1), (35, -1), (36, -1), (37, -1), (38, -1), (39, -1)] h h524 := my_fr.tr gh512 (frh524.mo rfl)
                have Lo_h524 : Lo h h524 := Lo_ag (my_ag.fr frh524 rfl) Ln_h512 Lo_h512
                show wp l rho (d + 7) 49 110 [(2, 82), (0, 0), (0, 1), (0, 0), (0, 0), (0, 1)] [] h524 Q
                have tE540 : cs h512 = cs h := cs_eq (fun j => my_fr.at gh512 is_92 rfl) (my_fr.at gh512 is_82 rfl)
                rw [tE540] at xp527
                have ps541 : h512 82 7 = (sN (cs h) (h 82 7)) := xc520
                rw [ps541] at xp527
                have ck542 := Cu_s Cu_h524t531
                rw [show cs h524 = cs h from cs_eq (fun j => my_fr.at gh524 is_92 rfl) (my_fr.at gh524 is_82 rfl)] at ck542
                have q2 : h512 82 2 = h 82 2 := my_fr.at frh512 is_82 rfl
                have q11 : h512 (h 82 2) 1 = h (h 82 2) 1 := my_fr.at frh512 n_Ln.2.2.2.1 rfl
                have q13 : h512 (h 82 2) 3 = h (h 82 2) 3 := my_fr.at frh512 n_Ln.2.2.2.1 rfl
                have q14 : h512 (h 82 2) 4 = h (h 82 2) 4 := my_fr.at frh512 n_Ln.2.2.2.1 rfl
                have q19 : h512 (h 82 2) 9 = h (h 82 2) 9 := my_fr.at frh512 n_Ln.2.2.2.1 rfl
                have qc : h512 2 = h 2 := funext (fun j => my_fr.at frh512 is_2 rfl)
                have zC := xp527
                simp only [q2, q11, q13, q14, q19, qc] at zC
                refine w_goto (t := 140) gz_49_110 rfl ?_
                have psR : h524 82 7 = h524 82 7 := (rfl : h524 82 7 = h524 82 7)
                have npsR : cs h524 = cs h := cs_eq (fun j => my_fr.at gh524 is_92 rfl) (my_fr.at gh524 is_82 rfl)
                have c543 := (rfl : h524 82 9 = h524 82 9)
                exact w_vret gz_49_140 gm_49 (k0 h524 (gh524) (by omega) (by omega) (by first | exact Lo_h524 | exact ⟨st.1, st.2.1, st.2.2.2.2⟩ | exact Or.inl ⟨by omega, zF, st.2.2.1, st.2.2.2.1⟩ | exact Or.inr (Or.inr (Or.inl ⟨by omega, by omega, zC, st.2.2.1, st.2.2.2.1⟩)) | exact Or.inr (Or.inr (Or.inr (Or.inl ⟨by omega, by omega, zW, st.2.2.2.1⟩))) | exact Or.inr (Or.inr (Or.inr (Or.inr (Or.inl ⟨by omega, by omega, zJ, fun _ => st.2.2.1, st.2.2.2.1⟩)))) | exact Or.inr (Or.inr (Or.inr (Or.inr (Or.inr (Or.inl ⟨by omega, by omega, zS, st.2.2.1, st.2.2.2.1⟩))))) | exact ⟨_, _, _, Or.inl ⟨by omega, zF, rfl, rfl⟩⟩ | exact ⟨_, _, _, Or.inr (Or.inr (Or.inl ⟨by omega, by omega, zC, rfl, rfl⟩))⟩ | exact ⟨_, _, _, Or.inr (Or.inr (Or.inr (Or.inl ⟨by omega, by omega, zW, rfl⟩)))⟩ | exact ⟨_, _, _, Or.inr (Or.inr (Or.inr (Or.inr (Or.inl ⟨by omega, by omega, zJ, fun q => absurd q (by omega), rfl⟩))))⟩ | exact ⟨_, _, _, Or.inr (Or.inr (Or.inr (Or.inr (Or.inr (Or.inl ⟨by omega, by omega, zS, rfl, rfl⟩)))))⟩ | exact ⟨0, 0, 0, Or.inr (Or.inl ⟨by omega, by omega, by omega⟩)⟩ | exact ⟨0, 0, 0, Or.inr (Or.inr (Or.inr (Or.inr (Or.inr (Or.inr ⟨by omega, by omega, by omega, by omega, by omega, by omega⟩)))))⟩ | (exfalso; omega) | omega) (by first | exact Lo_h524 | exact ⟨st.1, st.2.1, st.2.2.2.2⟩ | exact Or.inl ⟨by omega, zF, st.2.2.1, st.2.2.2.1⟩ | exact Or.inr (Or.inr (Or.inl ⟨by omega, by omega, zC, st.2.2.1, st.2.2.2.1⟩)) | exact Or.inr (Or.inr (Or.inr (Or.inl ⟨by omega, by omega, zW, st.2.2.2.1⟩))) | exact Or.inr (Or.inr (Or.inr (Or.inr (Or.inl ⟨by omega, by omega, zJ, fun _ => st.2.2.1, st.2.2.2.1⟩)))) | exact Or.inr (Or.inr (Or.inr (Or.inr (Or.inr (Or.inl ⟨by omega, by omega, zS, st.2.2.1, st.2.2.2.1⟩))))) | exact ⟨_, _, _, Or.inl ⟨by omega, zF, rfl, rfl⟩⟩ | exact ⟨_, _, _, Or.inr (Or.inr (Or.inl ⟨by omega, by omega, zC, rfl, rfl⟩))⟩ | exact ⟨_, _, _, Or.inr (Or.inr (Or.inr (Or.inl ⟨by omega, by omega, zW, rfl⟩)))⟩ | exact ⟨_, _, _, Or.inr (Or.inr (Or.inr (Or.inr (Or.inl ⟨by omega, by omega, zJ, fun q => absurd q (by omega), rfl⟩))))⟩ | exact ⟨_, _, _, Or.inr (Or.inr (Or.inr (Or.inr (Or.inr (Or.inl ⟨by omega, by omega, zS, rfl, rfl⟩)))))⟩ | exact ⟨0, 0, 0, Or.inr (Or.inl ⟨by omega, by omega, by omega⟩)⟩ | exact ⟨0, 0, 0, Or.inr (Or.inr (Or.inr (Or.inr (Or.inr (Or.inr ⟨by omega, by omega, by omega, by omega, by omega, by omega⟩)))))⟩ | (exfalso; omega) | omega) Ln_h524t528 Sp_h524t529 Al_h524t530 Cu_h524t531)
              ·
                have gh532 : my_fr [(4, 4), (4, 5), (4, 6), (4, 7), (4, 8), (4, 9), (5, 5), (5, 6), (5, 7), (5, 8), (5, 9), (32, -1), (33, -1), (34, -1), (35, -1), (36, -1), (37, -1), (38, -1), (39, -1)] h h532 := my_fr.tr gh512 (frh532.mo rfl)
                have Lo_h532 : Lo h h532 := Lo_ag (my_ag.fr frh532 rfl) Ln_h512 Lo_h512
                show wp l rho (d + 7) 49 110 [(2, 82), (0, 0), (0, 1), (0, 0), (0, 0), (0, 1)] [] h532 Q
                have tE544 : cs h512 = cs h := cs_eq (fun j => my_fr.at gh512 is_92 rfl) (my_fr.at gh512 is_82 rfl)
                rw [tE544] at xp534
                have ps545 : h512 82 7 = (sN (cs h) (h 82 7)) := xc520
                rw [ps545] at xp534
                have ck546 := Cu_s Cu_h532t539
                rw [show cs h532 = cs h from cs_eq (fun j => my_fr.at gh532 is_92 rfl) (my_fr.at gh532 is_82 rfl)] at ck546
                have q2 : h512 82 2 = h 82 2 := my_fr.at frh512 is_82 rfl
                have q11 : h512 (h 82 2) 1 = h (h 82 2) 1 := my_fr.at frh512 n_Ln.2.2.2.1 rfl
                have q13 : h512 (h 82 2) 3 = h (h 82 2) 3 := my_fr.at frh512 n_Ln.2.2.2.1 rfl
                have q14 : h512 (h 82 2) 4 = h (h 82 2) 4 := my_fr.at frh512 n_Ln.2.2.2.1 rfl
                have q19 : h512 (h 82 2) 9 = h (h 82 2) 9 := my_fr.at frh512 n_Ln.2.2.2.1 rfl
                have qc : h512 2 = h 2 := funext (fun j => my_fr.at frh512 is_2 rfl)
                have zC := xp534
                simp only [q2, q11, q13, q14, q19, qc] at zC
                have st := xp535
                unfold Std at st
                simp only [q2, q11, q13, q14, q19, qc] at st
                refine w_goto (t := 140) gz_49_110 rfl ?_
                have psR : h532 82 7 = h532 82 7 := (rfl : h532 82 7 = h532 82 7)
                have npsR : cs h532 = cs h := cs_eq (fun j => my_fr.at gh532 is_92 rfl) (my_fr.at gh532 is_82 rfl)
                have c547 := w533
                exact w_vret gz_49_140 gm_49 (k1 h532 (gh532) (by omega) (by first | exact Lo_h532 | exact ⟨st.1, st.2.1, st.2.2.2.2⟩ | exact Or.inl ⟨by omega, zF, st.2.2.1, st.2.2.2.1⟩ | exact Or.inr (Or.inr (Or.inl ⟨by omega, by omega, zC, st.2.2.1, st.2.2.2.1⟩)) | exact Or.inr (Or.inr (Or.inr (Or.inl ⟨by omega, by omega, zW, st.2.2.2.1⟩))) | exact Or.inr (Or.inr (Or.inr (Or.inr (Or.inl ⟨by omega, by omega, zJ, fun _ => st.2.2.1, st.2.2.2.1⟩)))) | exact Or.inr (Or.inr (Or.inr (Or.inr (Or.inr (Or.inl ⟨by omega, by omega, zS, st.2.2.1, st.2.2.2.1⟩))))) | exact ⟨_, _, _, Or.inl ⟨by omega, zF, rfl, rfl⟩⟩ | exact ⟨_, _, _, Or.inr (Or.inr (Or.inl ⟨by omega, by omega, zC, rfl, rfl⟩))⟩ | exact ⟨_, _, _, Or.inr (Or.inr (Or.inr (Or.inl ⟨by omega, by omega, zW, rfl⟩)))⟩ | exact ⟨_, _, _, Or.inr (Or.inr (Or.inr (Or.inr (Or.inl ⟨by omega, by omega, zJ, fun q => absurd q (by omega), rfl⟩))))⟩ | exact ⟨_, _, _, Or.inr (Or.inr (Or.inr (Or.inr (Or.inr (Or.inl ⟨by omega, by omega, zS, rfl, rfl⟩)))))⟩ | exact ⟨0, 0, 0, Or.inr (Or.inl ⟨by omega, by omega, by omega⟩)⟩ | exact ⟨0, 0, 0, Or.inr (Or.inr (Or.inr (Or.inr (Or.inr (Or.inr ⟨by omega, by omega, by omega, by omega, by omega, by omega⟩)))))⟩ | (exfalso; omega) | omega) (by first | exact Lo_h532 | exact ⟨st.1, st.2.1, st.2.2.2.2⟩ | exact Or.inl ⟨by omega, zF, st.2.2.1, st.2.2.2.1⟩ | exact Or.inr (Or.inr (Or.inl ⟨by omega, by omega, zC, st.2.2.1, st.2.2.2.1⟩)) | exact Or.inr (Or.inr (Or.inr (Or.inl ⟨by omega, by omega, zW, st.2.2.2.1⟩))) | exact Or.inr (Or.inr (Or.inr (Or.inr (Or.inl ⟨by omega, by omega, zJ, fun _ => st.2.2.1, st.2.2.2.1⟩)))) | exact Or.inr (Or.inr (Or.inr (Or.inr (Or.inr (Or.inl ⟨by omega, by omega, zS, st.2.2.1, st.2.2.2.1⟩))))) | exact ⟨_, _, _, Or.inl ⟨by omega, zF, rfl, rfl⟩⟩ | exact ⟨_, _, _, Or.inr (Or.inr (Or.inl ⟨by omega, by omega, zC, rfl, rfl⟩))⟩ | exact ⟨_, _, _, Or.inr (Or.inr (Or.inr (Or.inl ⟨by omega, by omega, zW, rfl⟩)))⟩ | exact ⟨_, _, _, Or.inr (Or.inr (Or.inr (Or.inr (Or.inl ⟨by omega, by omega, zJ, fun q => absurd q (by omega), rfl⟩))))⟩ | exact ⟨_, _, _, Or.inr (Or.inr (Or.inr (Or.inr (Or.inr (Or.inl ⟨by omega, by omega, zS, rfl, rfl⟩)))))⟩ | exact ⟨0, 0, 0, Or.inr (Or.inl ⟨by omega, by omega, by omega⟩)⟩ | exact ⟨0, 0, 0, Or.inr (Or.inr (Or.inr (Or.inr (Or.inr (Or.inr ⟨by omega, by omega, by omega, by omega, by omega, by omega⟩)))))⟩ | (exfalso; omega) | omega) (by first | exact Lo_h532 | exact ⟨st.1, st.2.1, st.2.2.2.2⟩ | exact Or.inl ⟨by omega, zF, st.2.2.1, st.2.2.2.1⟩ | exact Or.inr (Or.inr (Or.inl ⟨by omega, by omega, zC, st.2.2.1, st.2.2.2.1⟩)) | exact Or.inr (Or.inr (Or.inr (Or.inl ⟨by omega, by omega, zW, st.2.2.2.1⟩))) | exact Or.inr (Or.inr (Or.inr (Or.inr (Or.inl ⟨by omega, by omega, zJ, fun _ => st.2.2.1, st.2.2.2.1⟩)))) | exact Or.inr (Or.inr (Or.inr (Or.inr (Or.inr (Or.inl ⟨by omega, by omega, zS, st.2.2.1, st.2.2.2.1⟩))))) | exact ⟨_, _, _, Or.inl ⟨by omega, zF, rfl, rfl⟩⟩ | exact ⟨_, _, _, Or.inr (Or.inr (Or.inl ⟨by omega, by omega, zC, rfl, rfl⟩))⟩ | exact ⟨_, _, _, Or.inr (Or.inr (Or.inr (Or.inl ⟨by omega, by omega, zW, rfl⟩)))⟩ | exact ⟨_, _, _, Or.inr (Or.inr (Or.inr (Or.inr (Or.inl ⟨by omega, by omega, zJ, fun q => absurd q (by omega), rfl⟩))))⟩ | exact ⟨_, _, _, Or.inr (Or.inr (Or.inr (Or.inr (Or.inr (Or.inl ⟨by omega, by omega, zS, rfl, rfl⟩)))))⟩ | exact ⟨0, 0, 0, Or.inr (Or.inl ⟨by omega, by omega, by omega⟩)⟩ | exact ⟨0, 0, 0, Or.inr (Or.inr (Or.inr (Or.inr (Or.inr (Or.inr ⟨by omega, by omega, by omega, by omega, by omega, by omega⟩)))))⟩ | (exfalso; omega) | omega) Ln_h532t536 Sp_h532t537 Al_h532t538 Cu_h532t539)
            ·
              refine w_aload_n gz_49_81 rfl ?_
              refine w_iconst gz_49_82 (by decide) ?_
              refine w_inv (k := 0) (as := [(0, 5)]) (r := []) (x := 82) (ls0 := [(2, 82), (0, 5)]) gz_49_83 gm_42 rfl is_82 rd_5 rfl rfl rfl rfl rfl ?_
              refine w_aload_n gz_42_0 rfl ?_
              refine v_getI (j := 9) gz_42_1 rfl is_82 rd_5 rfl (fun v548 ev548 pv548 qv548 => ?_)
              have zv548 := ev548.trans cf
              refine w_ifne (t := 20) gz_42_4 rfl (fun u549 => by exfalso; omega) (fun u549 => ?_)
              refine w_aload_n gz_42_7 rfl ?_
              refine w_iload_n gz_42_8 rfl ?_
              refine w_bipush gz_42_9 (by decide) ?_
              refine w_aload_n gz_42_11 rfl ?_
              refine v_getI (j := 7) gz_42_12 rfl is_82 rd_5 rfl (fun v550 ev550 pv550 qv550 => ?_)
              refine w_imul gz_42_15 ⟨by omega, by omega⟩ ?_
              refine w_iadd gz_42_16 ⟨by omega, by omega⟩ ?_
              refine v_putI (j := 9) gz_42_17 rfl is_82 rd_5 rfl (by omega) (by omega) rfl (fun h551 fh551 => ?_)
              have gh551 : my_fr [(4, 4), (4, 5), (4, 6), (4, 7), (4, 8), (4, 9), (5, 5), (5, 6), (5, 7), (5, 8), (5, 9), (32, -1), (33, -1), (34, -1), (35, -1), (36, -1), (37, -1), (38, -1), (39, -1)] h h551 := my_fr.up my_fr.rf is_82 fh551 rfl
              have Ln_h551 : Ln h551 := Ln_ag (my_ag.up fh551 is_82 rfl) n_Ln
              have Sp_h551 : Sp h551 wv := Sp_ag (my_ag.up fh551 is_82 rfl) hwv n_Ln n_Sp
              have Al_h551 : Al h551 := Al_ag (my_ag.up fh551 is_82 rfl) n_Al
              have Cu_h551 : Cu h551 := Cu_ag (my_ag.up fh551 is_82 rfl) n_Cu
              have Lo_h551 : Lo h h551 := Lo_ag (my_ag.up fh551 is_82 rfl) n_Ln (Lo_rf)
              refine w_vret gz_42_20 gm_42 ?_
              show wp l rho (d + 7) 49 86 [(2, 82), (0, 0), (0, 1), (0, 0), (0, 0), (0, 1)] [] h551 Q
              have psR : h551 82 7 = h 82 7 := ((my_up_fld fh551 (by decide)).trans (rfl : h 82 7 = h 82 7))
              have npsR : cs h551 = cs h := cs_eq (fun j => my_fr.at gh551 is_92 rfl) (my_fr.at gh551 is_82 rfl)
              have c552 := (my_up_self fh551)
              exact w_vret gz_49_86 gm_49 (k0 h551 (gh551) (by omega) (by omega) (by first | exact Lo_h551 | exact ⟨st.1, st.2.1, st.2.2.2.2⟩ | exact Or.inl ⟨by omega, zF, st.2.2.1, st.2.2.2.1⟩ | exact Or.inr (Or.inr (Or.inl ⟨by omega, by omega, zC, st.2.2.1, st.2.2.2.1⟩)) | exact Or.inr (Or.inr (Or.inr (Or.inl ⟨by omega, by omega, zW, st.2.2.2.1⟩))) | exact Or.inr (Or.inr (Or.inr (Or.inr (Or.inl ⟨by omega, by omega, zJ, fun _ => st.2.2.1, st.2.2.2.1⟩)))) | exact Or.inr (Or.inr (Or.inr (Or.inr (Or.inr (Or.inl ⟨by omega, by omega, zS, st.2.2.1, st.2.2.2.1⟩))))) | exact ⟨_, _, _, Or.inl ⟨by omega, zF, rfl, rfl⟩⟩ | exact ⟨_, _, _, Or.inr (Or.inr (Or.inl ⟨by omega, by omega, zC, rfl, rfl⟩))⟩ | exact ⟨_, _, _, Or.inr (Or.inr (Or.inr (Or.inl ⟨by omega, by omega, zW, rfl⟩)))⟩ | exact ⟨_, _, _, Or.inr (Or.inr (Or.inr (Or.inr (Or.inl ⟨by omega, by omega, zJ, fun q => absurd q (by omega), rfl⟩))))⟩ | exact ⟨_, _, _, Or.inr (Or.inr (Or.inr (Or.inr (Or.inr (Or.inl ⟨by omega, by omega, zS, rfl, rfl⟩)))))⟩ | exact ⟨0, 0, 0, Or.inr (Or.inl ⟨by omega, by omega, by omega⟩)⟩ | exact ⟨0, 0, 0, Or.inr (Or.inr (Or.inr (Or.inr (Or.inr (Or.inr ⟨by omega, by omega, by omega, by omega, by omega, by omega⟩)))))⟩ | (exfalso; omega) | omega) (by first | exact Lo_h551 | exact ⟨st.1, st.2.1, st.2.2.2.2⟩ | exact Or.inl ⟨by omega, zF, st.2.2.1, st.2.2.2.1⟩ | exact Or.inr (Or.inr (Or.inl ⟨by omega, by omega, zC, st.2.2.1, st.2.2.2.1⟩)) | exact Or.inr (Or.inr (Or.inr (Or.inl ⟨by omega, by omega, zW, st.2.2.2.1⟩))) | exact Or.inr (Or.inr (Or.inr (Or.inr (Or.inl ⟨by omega, by omega, zJ, fun _ => st.2.2.1, st.2.2.2.1⟩)))) | exact Or.inr (Or.inr (Or.inr (Or.inr (Or.inr (Or.inl ⟨by omega, by omega, zS, st.2.2.1, st.2.2.2.1⟩))))) | exact ⟨_, _, _, Or.inl ⟨by omega, zF, rfl, rfl⟩⟩ | exact ⟨_, _, _, Or.inr (Or.inr (Or.inl ⟨by omega, by omega, zC, rfl, rfl⟩))⟩ | exact ⟨_, _, _, Or.inr (Or.inr (Or.inr (Or.inl ⟨by omega, by omega, zW, rfl⟩)))⟩ | exact ⟨_, _, _, Or.inr (Or.inr (Or.inr (Or.inr (Or.inl ⟨by omega, by omega, zJ, fun q => absurd q (by omega), rfl⟩))))⟩ | exact ⟨_, _, _, Or.inr (Or.inr (Or.inr (Or.inr (Or.inr (Or.inl ⟨by omega, by omega, zS, rfl, rfl⟩)))))⟩ | exact ⟨0, 0, 0, Or.inr (Or.inl ⟨by omega, by omega, by omega⟩)⟩ | exact ⟨0, 0, 0, Or.inr (Or.inr (Or.inr (Or.inr (Or.inr (Or.inr ⟨by omega, by omega, by omega, by omega, by omega, by omega⟩)))))⟩ | (exfalso; omega) | omega) Ln_h551 Sp_h551 Al_h551 Cu_h551)
        ·
          show wp l rho (d + 7) 49 27 [(2, 82), (0, 0), (0, 1), (0, 0), (9, 0), (9, 0)] [(0, 1)] h Q
          rw [show wc ((7 : Nat) : Int) = 527412 from by decide] at xp451
          refine w_istore (ls' := [(2, 82), (0, 0), (0, 1), (0, 0), (0, 1), (9, 0)]) gz_49_27 gm_49 rfl rfl rfl ?_
          refine w_aload_n gz_49_29 rfl ?_
          refine w_ldcS gz_49_30 (by decide) ?_
          refine w_inv (k := 1) (as := [(3, ((8 : Nat) : Int))]) (r := []) (x := 82) (ls0 := [(2, 82), (3, ((8 : Nat) : Int)), (9, 0)]) gz_49_32 gm_41 rfl is_82 rd_5 rfl rfl rfl rfl rfl (c_Reader_isWord9_f0 (d := (d + 2)) (x1 := ((8 : Nat) : Int)) (by decide) (cf.trans (by omega)) n_Cu (fun w553 xp554 => ?_) (fun w555 w556 xp557 => ?_))
          ·
            show wp l rho (d + 7) 49 35 [(2, 82), (0, 0), (0, 1), (0, 0), (0, 1), (9, 0)] [(0, 0)] h Q
            rw [show wc ((8 : Nat) : Int) = 26801 from by decide] at xp554
            refine w_istore (ls' := [(2, 82), (0, 0), (0, 1), (0, 0), (0, 1), (0, 0)]) gz_49_35 gm_49 rfl rfl rfl ?_
            refine w_iload_n gz_49_37 rfl ?_
            refine w_ifne (t := 65) gz_49_38 rfl (fun u558 => by exfalso; omega) (fun u558 => ?_)
            refine w_iload_n gz_49_41 rfl ?_
            refine w_ifne (t := 65) gz_49_42 rfl (fun u559 => ?_) (fun u559 => by exfalso; omega)
            refine w_iload_n gz_49_65 rfl ?_
            refine w_ifne (t := 87) gz_49_66 rfl (fun u560 => by exfalso; omega) (fun u560 => ?_)
            refine w_aload_n gz_49_69 rfl ?_
            refine v_getR (j := 2) gz_49_70 rfl is_82 rd_5 rfl (fun v561 ev561 tv561 => ?_)
            have sE73 : v561 = h 82 2 := by first | assumption | omega
            refine v_getI (j := 9) gz_49_73 rfl tv561 rd_4 rfl (fun v562 ev562 pv562 qv562 => ?_)
            have c76 : v562 = h (h 82 2) 9 := by rw [← sE73]; omega
            refine w_bipush gz_49_76 (by decide) ?_
            refine w_iclt (t := 87) gz_49_78 rfl (fun u563 => ?_) (fun u563 => ?_)
            ·
              have St5_ht564 : St5 h := ⟨by subst_vars; omega, by subst_vars; omega⟩
              refine w_aload_n gz_49_87 rfl ?_
              refine w_inv (k := 2) (as := []) (r := []) (x := 82) (ls0 := [(2, 82), (9, 0), (9, 0)]) gz_49_88 gm_37 rfl is_82 rd_5 rfl rfl rfl rfl rfl (c_Reader_nextToken9_f0 (d := (d + 5))  (cf.trans (by omega)) n_Al (fun h565 frh565 w566 w567 w568 xp569 xp570 Al_h565t571 Cu_h565t572 => ?_))
              have gh565 : my_fr [(4, 4), (4, 5), (4, 6), (4, 7), (4, 8), (4, 9), (5, 5), (5, 6), (5, 7), (5, 8), (5, 9), (32, -1), (33, -1), (34, -1), (35, -1), (36, -1), (37, -1), (38, -1), (39, -1)] h h565 := my_fr.tr my_fr.rf (frh565.mo rfl)
              have Ln_h565 : Ln h565 := Ln_ag (my_ag.fr frh565 rfl) n_Ln
              have Sp_h565 : Sp h565 wv := Sp_ag (my_ag.fr frh565 rfl) hwv n_Ln n_Sp
              have Lo_h565 : Lo h h565 := Lo_ag (my_ag.fr frh565 rfl) n_Ln (Lo_rf)
              have St5_h565 : St5 h565 := St5_ag (my_ag.fr frh565 rfl) n_Ln St5_ht564
              show wp l rho (d + 7) 49 91 [(2, 82), (0, 0), (0, 1), (0, 0), (0, 1), (0, 0)] [] h565 Q
              have xc573 := xp569 n_Cu
              have ck574 := Cu_s Cu_h565t572
              rw [show cs h565 = cs h from cs_eq (fun j => my_fr.at gh565 is_92 rfl) (my_fr.at gh565 is_82 rfl)] at ck574
              rw [show h565 82 7 = (sN (cs h) (h 82 7)) from xc573] at ck574
              refine w_iload_n gz_49_91 rfl ?_
              refine w_ifeq (t := 102) gz_49_92 rfl (fun u575 => ?_) (fun u575 => by exfalso; omega)
              refine w_iload_n gz_49_102 rfl ?_
              refine w_ifeq (t := 113) gz_49_103 rfl (fun u576 => by exfalso; omega) (fun u576 => ?_)
              refine w_aload_n gz_49_106 rfl ?_
              refine w_inv (k := 3) (as := []) (r := []) (x := 82) (ls0 := [(2, 82), (9, 0), (9, 0), (9, 0)]) gz_49_107 gm_52 rfl is_82 rd_5 rfl rfl rfl rfl rfl (c_Reader_readCut9_f0 (d := (d + 1))  (wv := wv) (((my_fr.at frh565 is_82 rfl).trans cf).trans (by omega)) (by first | assumption | omega) (by first | assumption | omega) Ln_h565 Sp_h565 St5_h565 Al_h565t571 Cu_h565t572 (fun h577 frh577 w578 w579 xp580 Ln_h577t581 Sp_h577t582 Al_h577t583 Cu_h577t584 => ?_) (fun h585 frh585 w586 xp587 xp588 Ln_h585t589 Sp_h585t590 Al_h585t591 Cu_h585t592 => ?_))
              ·
                have gh577 : my_fr [(4, 4), (4, 5), (4, 6), (4, 7), (4, 8), (4, 9), (5, 5), (5, 6), (5, 7), (5, 8), (5, 9), (32, -1), (33, -1), (34, -1), (35, -1), (36, -1), (37, -1), (38, -1), (39, -1)] h h577 := my_fr.tr gh565 (frh577.mo rfl)
                have Lo_h577 : Lo h h577 := Lo_ag (my_ag.fr frh577 rfl) Ln_h565 Lo_h565
                show wp l rho (d + 7) 49 110 [(2, 82), (0, 0), (0, 1), (0, 0), (0, 1), (0, 0)] [] h577 Q
                have tE593 : cs h565 = cs h := cs_eq (fun j => my_fr.at gh565 is_92 rfl) (my_fr.at gh565 is_82 rfl)
                rw [tE593] at xp580
                have ps594 : h565 82 7 = (sN (cs h) (h 82 7)) := xc573
                rw [ps594] at xp580
                have ck595 := Cu_s Cu_h577t584
                rw [show cs h577 = cs h from cs_eq (fun j => my_fr.at gh577 is_92 rfl) (my_fr.at gh577 is_82 rfl)] at ck595
                have q2 : h565 82 2 = h 82 2 := my_fr.at frh565 is_82 rfl
                have q11 : h565 (h 82 2) 1 = h (h 82 2) 1 := my_fr.at frh565 n_Ln.2.2.2.1 rfl
                have q13 : h565 (h 82 2) 3 = h (h 82 2) 3 := my_fr.at frh565 n_Ln.2.2.2.1 rfl
                have q14 : h565 (h 82 2) 4 = h (h 82 2) 4 := my_fr.at frh565 n_Ln.2.2.2.1 rfl
                have q19 : h565 (h 82 2) 9 = h (h 82 2) 9 := my_fr.at frh565 n_Ln.2.2.2.1 rfl
                have qc : h565 2 = h 2 := funext (fun j => my_fr.at frh565 is_2 rfl)
                have zC := xp580
                simp only [q2, q11, q13, q14, q19, qc] at zC
                refine w_goto (t := 140) gz_49_110 rfl ?_
                have psR : h577 82 7 = h577 82 7 := (rfl : h577 82 7 = h577 82 7)
                have npsR : cs h577 = cs h := cs_eq (fun j => my_fr.at gh577 is_92 rfl) (my_fr.at gh577 is_82 rfl)
                have c596 := (rfl : h577 82 9 = h577 82 9)
                exact w_vret gz_49_140 gm_49 (k0 h577 (gh577) (by omega) (by omega) (by first | exact Lo_h577 | exact ⟨st.1, st.2.1, st.2.2.2.2⟩ | exact Or.inl ⟨by omega, zF, st.2.2.1, st.2.2.2.1⟩ | exact Or.inr (Or.inr (Or.inl ⟨by omega, by omega, zC, st.2.2.1, st.2.2.2.1⟩)) | exact Or.inr (Or.inr (Or.inr (Or.inl ⟨by omega, by omega, zW, st.2.2.2.1⟩))) | exact Or.inr (Or.inr (Or.inr (Or.inr (Or.inl ⟨by omega, by omega, zJ, fun _ => st.2.2.1, st.2.2.2.1⟩)))) | exact Or.inr (Or.inr (Or.inr (Or.inr (Or.inr (Or.inl ⟨by omega, by omega, zS, st.2.2.1, st.2.2.2.1⟩))))) | exact ⟨_, _, _, Or.inl ⟨by omega, zF, rfl, rfl⟩⟩ | exact ⟨_, _, _, Or.inr (Or.inr (Or.inl ⟨by omega, by omega, zC, rfl, rfl⟩))⟩ | exact ⟨_, _, _, Or.inr (Or.inr (Or.inr (Or.inl ⟨by omega, by omega, zW, rfl⟩)))⟩ | exact ⟨_, _, _, Or.inr (Or.inr (Or.inr (Or.inr (Or.inl ⟨by omega, by omega, zJ, fun q => absurd q (by omega), rfl⟩))))⟩ | exact ⟨_, _, _, Or.inr (Or.inr (Or.inr (Or.inr (Or.inr (Or.inl ⟨by omega, by omega, zS, rfl, rfl⟩)))))⟩ | exact ⟨0, 0, 0, Or.inr (Or.inl ⟨by omega, by omega, by omega⟩)⟩ | exact ⟨0, 0, 0, Or.inr (Or.inr (Or.inr (Or.inr (Or.inr (Or.inr ⟨by omega, by omega, by omega, by omega, by omega, by omega⟩)))))⟩ | (exfalso; omega) | omega) (by first | exact Lo_h577 | exact ⟨st.1, st.2.1, st.2.2.2.2⟩ | exact Or.inl ⟨by omega, zF, st.2.2.1, st.2.2.2.1⟩ | exact Or.inr (Or.inr (Or.inl ⟨by omega, by omega, zC, st.2.2.1, st.2.2.2.1⟩)) | exact Or.inr (Or.inr (Or.inr (Or.inl ⟨by omega, by omega, zW, st.2.2.2.1⟩))) | exact Or.inr (Or.inr (Or.inr (Or.inr (Or.inl ⟨by omega, by omega, zJ, fun _ => st.2.2.1, st.2.2.2.1⟩)))) | exact Or.inr (Or.inr (Or.inr (Or.inr (Or.inr (Or.inl ⟨by omega, by omega, zS, st.2.2.1, st.2.2.2.1⟩))))) | exact ⟨_, _, _, Or.inl ⟨by omega, zF, rfl, rfl⟩⟩ | exact ⟨_, _, _, Or.inr (Or.inr (Or.inl ⟨by omega, by omega, zC, rfl, rfl⟩))⟩ | exact ⟨_, _, _, Or.inr (Or.inr (Or.inr (Or.inl ⟨by omega, by omega, zW, rfl⟩)))⟩ | exact ⟨_, _, _, Or.inr (Or.inr (Or.inr (Or.inr (Or.inl ⟨by omega, by omega, zJ, fun q => absurd q (by omega), rfl⟩))))⟩ | exact ⟨_, _, _, Or.inr (Or.inr (Or.inr (Or.inr (Or.inr (Or.inl ⟨by omega, by omega, zS, rfl, rfl⟩)))))⟩ | exact ⟨0, 0, 0, Or.inr (Or.inl ⟨by omega, by omega, by omega⟩)⟩ | exact ⟨0, 0, 0, Or.inr (Or.inr (Or.inr (Or.inr (Or.inr (Or.inr ⟨by omega, by omega, by omega, by omega, by omega, by omega⟩)))))⟩ | (exfalso; omega) | omega) Ln_h577t581 Sp_h577t582 Al_h577t583 Cu_h577t584)
              ·
                have gh585 : my_fr [(4, 4), (4, 5), (4, 6), (4, 7), (4, 8), (4, 9), (5, 5), (5, 6), (5, 7), (5, 8), (5, 9), (32, -1), (33, -1), (34, -1), (35, -1), (36, -1), (37, -1), (38, -1), (39, -1)] h h585 := my_fr.tr gh565 (frh585.mo rfl)
                have Lo_h585 : Lo h h585 := Lo_ag (my_ag.fr frh585 rfl) Ln_h565 Lo_h565
                show wp l rho (d + 7) 49 110 [(2, 82), (0, 0), (0, 1), (0, 0), (0, 1), (0, 0)] [] h585 Q
                have tE597 : cs h565 = cs h := cs_eq (fun j => my_fr.at gh565 is_92 rfl) (my_fr.at gh565 is_82 rfl)
                rw [tE597] at xp587
                have ps598 : h565 82 7 = (sN (cs h) (h 82 7)) := xc573
                rw [ps598] at xp587
                have ck599 := Cu_s Cu_h585t592
                rw [show cs h585 = cs h from cs_eq (fun j => my_fr.at gh585 is_92 rfl) (my_fr.at gh585 is_82 rfl)] at ck599
                have q2 : h565 82 2 = h 82 2 := my_fr.at frh565 is_82 rfl
                have q11 : h565 (h 82 2) 1 = h (h 82 2) 1 := my_fr.at frh565 n_Ln.2.2.2.1 rfl
                have q13 : h565 (h 82 2) 3 = h (h 82 2) 3 := my_fr.at frh565 n_Ln.2.2.2.1 rfl
                have q14 : h565 (h 82 2) 4 = h (h 82 2) 4 := my_fr.at frh565 n_Ln.2.2.2.1 rfl
                have q19 : h565 (h 82 2) 9 = h (h 82 2) 9 := my_fr.at frh565 n_Ln.2.2.2.1 rfl
                have qc : h565 2 = h 2 := funext (fun j => my_fr.at frh565 is_2 rfl)
                have zC := xp587
                simp only [q2, q11, q13, q14, q19, qc] at zC
                have st := xp588
                unfold Std at st
                simp only [q2, q11, q13, q14, q19, qc] at st
                refine w_goto (t := 140) gz_49_110 rfl ?_
                have psR : h585 82 7 = h585 82 7 := (rfl : h585 82 7 = h585 82 7)
                have npsR : cs h585 = cs h := cs_eq (fun j => my_fr.at gh585 is_92 rfl) (my_fr.at gh585 is_82 rfl)
                have c600 := w586
                exact w_vret gz_49_140 gm_49 (k1 h585 (gh585) (by omega) (by first | exact Lo_h585 | exact ⟨st.1, st.2.1, st.2.2.2.2⟩ | exact Or.inl ⟨by omega, zF, st.2.2.1, st.2.2.2.1⟩ | exact Or.inr (Or.inr (Or.inl ⟨by omega, by omega, zC, st.2.2.1, st.2.2.2.1⟩)) | exact Or.inr (Or.inr (Or.inr (Or.inl ⟨by omega, by omega, zW, st.2.2.2.1⟩))) | exact Or.inr (Or.inr (Or.inr (Or.inr (Or.inl ⟨by omega, by omega, zJ, fun _ => st.2.2.1, st.2.2.2.1⟩)))) | exact Or.inr (Or.inr (Or.inr (Or.inr (Or.inr (Or.inl ⟨by omega, by omega, zS, st.2.2.1, st.2.2.2.1⟩))))) | exact ⟨_, _, _, Or.inl ⟨by omega, zF, rfl, rfl⟩⟩ | exact ⟨_, _, _, Or.inr (Or.inr (Or.inl ⟨by omega, by omega, zC, rfl, rfl⟩))⟩ | exact ⟨_, _, _, Or.inr (Or.inr (Or.inr (Or.inl ⟨by omega, by omega, zW, rfl⟩)))⟩ | exact ⟨_, _, _, Or.inr (Or.inr (Or.inr (Or.inr (Or.inl ⟨by omega, by omega, zJ, fun q => absurd q (by omega), rfl⟩))))⟩ | exact ⟨_, _, _, Or.inr (Or.inr (Or.inr (Or.inr (Or.inr (Or.inl ⟨by omega, by omega, zS, rfl, rfl⟩)))))⟩ | exact ⟨0, 0, 0, Or.inr (Or.inl ⟨by omega, by omega, by omega⟩)⟩ | exact ⟨0, 0, 0, Or.inr (Or.inr (Or.inr (Or.inr (Or.inr (Or.inr ⟨by omega, by omega, by omega, by omega, by omega, by omega⟩)))))⟩ | (exfalso; omega) | omega) (by first | exact Lo_h585 | exact ⟨st.1, st.2.1, st.2.2.2.2⟩ | exact Or.inl ⟨by omega, zF, st.2.2.1, st.2.2.2.1⟩ | exact Or.inr (Or.inr (Or.inl ⟨by omega, by omega, zC, st.2.2.1, st.2.2.2.1⟩)) | exact Or.inr (Or.inr (Or.inr (Or.inl ⟨by omega, by omega, zW, st.2.2.2.1⟩))) | exact Or.inr (Or.inr (Or.inr (Or.inr (Or.inl ⟨by omega, by omega, zJ, fun _ => st.2.2.1, st.2.2.2.1⟩)))) | exact Or.inr (Or.inr (Or.inr (Or.inr (Or.inr (Or.inl ⟨by omega, by omega, zS, st.2.2.1, st.2.2.2.1⟩))))) | exact ⟨_, _, _, Or.inl ⟨by omega, zF, rfl, rfl⟩⟩ | exact ⟨_, _, _, Or.inr (Or.inr (Or.inl ⟨by omega, by omega, zC, rfl, rfl⟩))⟩ | exact ⟨_, _, _, Or.inr (Or.inr (Or.inr (Or.inl ⟨by omega, by omega, zW, rfl⟩)))⟩ | exact ⟨_, _, _, Or.inr (Or.inr (Or.inr (Or.inr (Or.inl ⟨by omega, by omega, zJ, fun q => absurd q (by omega), rfl⟩))))⟩ | exact ⟨_, _, _, Or.inr (Or.inr (Or.inr (Or.inr (Or.inr (Or.inl ⟨by omega, by omega, zS, rfl, rfl⟩)))))⟩ | exact ⟨0, 0, 0, Or.inr (Or.inl ⟨by omega, by omega, by omega⟩)⟩ | exact ⟨0, 0, 0, Or.inr (Or.inr (Or.inr (Or.inr (Or.inr (Or.inr ⟨by omega, by omega, by omega, by omega, by omega, by omega⟩)))))⟩ | (exfalso; omega) | omega) (by first | exact Lo_h585 | exact ⟨st.1, st.2.1, st.2.2.2.2⟩ | exact Or.inl ⟨by omega, zF, st.2.2.1, st.2.2.2.1⟩ | exact Or.inr (Or.inr (Or.inl ⟨by omega, by omega, zC, st.2.2.1, st.2.2.2.1⟩)) | exact Or.inr (Or.inr (Or.inr (Or.inl ⟨by omega, by omega, zW, st.2.2.2.1⟩))) | exact Or.inr (Or.inr (Or.inr (Or.inr (Or.inl ⟨by omega, by omega, zJ, fun _ => st.2.2.1, st.2.2.2.1⟩)))) | exact Or.inr (Or.inr (Or.inr (Or.inr (Or.inr (Or.inl ⟨by omega, by omega, zS, st.2.2.1, st.2.2.2.1⟩))))) | exact ⟨_, _, _, Or.inl ⟨by omega, zF, rfl, rfl⟩⟩ | exact ⟨_, _, _, Or.inr (Or.inr (Or.inl ⟨by omega, by omega, zC, rfl, rfl⟩))⟩ | exact ⟨_, _, _, Or.inr (Or.inr (Or.inr (Or.inl ⟨by omega, by omega, zW, rfl⟩)))⟩ | exact ⟨_, _, _, Or.inr (Or.inr (Or.inr (Or.inr (Or.inl ⟨by omega, by omega, zJ, fun q => absurd q (by omega), rfl⟩))))⟩ | exact ⟨_, _, _, Or.inr (Or.inr (Or.inr (Or.inr (Or.inr (Or.inl ⟨by omega, by omega, zS, rfl, rfl⟩)))))⟩ | exact ⟨0, 0, 0, Or.inr (Or.inl ⟨by omega, by omega, by omega⟩)⟩ | exact ⟨0, 0, 0, Or.inr (Or.inr (Or.inr (Or.inr (Or.inr (Or.inr ⟨by omega, by omega, by omega, by omega, by omega, by omega⟩)))))⟩ | (exfalso; omega) | omega) Ln_h585t589 Sp_h585t590 Al_h585t591 Cu_h585t592)
            ·
              refine w_aload_n gz_49_81 rfl ?_
              refine w_iconst gz_49_82 (by decide) ?_
              refine w_inv (k := 0) (as := [(0, 5)]) (r := []) (x := 82) (ls0 := [(2, 82), (0, 5)]) gz_49_83 gm_42 rfl is_82 rd_5 rfl rfl rfl rfl rfl ?_
              refine w_aload_n gz_42_0 rfl ?_
              refine v_getI (j := 9) gz_42_1 rfl is_82 rd_5 rfl (fun v601 ev601 pv601 qv601 => ?_)
              have zv601 := ev601.trans cf
              refine w_ifne (t := 20) gz_42_4 rfl (fun u602 => by exfalso; omega) (fun u602 => ?_)
              refine w_aload_n gz_42_7 rfl ?_
              refine w_iload_n gz_42_8 rfl ?_
              refine w_bipush gz_42_9 (by decide) ?_
              refine w_aload_n gz_42_11 rfl ?_
              refine v_getI (j := 7) gz_42_12 rfl is_82 rd_5 rfl (fun v603 ev603 pv603 qv603 => ?_)
              refine w_imul gz_42_15 ⟨by omega, by omega⟩ ?_
              refine w_iadd gz_42_16 ⟨by omega, by omega⟩ ?_
              refine v_putI (j := 9) gz_42_17 rfl is_82 rd_5 rfl (by omega) (by omega) rfl (fun h604 fh604 => ?_)
              have gh604 : my_fr [(4, 4), (4, 5), (4, 6), (4, 7), (4, 8), (4, 9), (5, 5), (5, 6), (5, 7), (5, 8), (5, 9), (32, -1), (33, -1), (34, -1), (35, -1), (36, -1), (37, -1), (38, -1), (39, -1)] h h604 := my_fr.up my_fr.rf is_82 fh604 rfl
              have Ln_h604 : Ln h604 := Ln_ag (my_ag.up fh604 is_82 rfl) n_Ln
              have Sp_h604 : Sp h604 wv := Sp_ag (my_ag.up fh604 is_82 rfl) hwv n_Ln n_Sp
              have Al_h604 : Al h604 := Al_ag (my_ag.up fh604 is_82 rfl) n_Al
              have Cu_h604 : Cu h604 := Cu_ag (my_ag.up fh604 is_82 rfl) n_Cu
              have Lo_h604 : Lo h h604 := Lo_ag (my_ag.up fh604 is_82 rfl) n_Ln (Lo_rf)
              refine w_vret gz_42_20 gm_42 ?_
              show wp l rho (d + 7) 49 86 [(2, 82), (0, 0), (0, 1), (0, 0), (0, 1), (0, 0)] [] h604 Q
              have psR : h604 82 7 = h 82 7 := ((my_up_fld fh604 (by decide)).trans (rfl : h 82 7 = h 82 7))
              have npsR : cs h604 = cs h := cs_eq (fun j => my_fr.at gh604 is_92 rfl) (my_fr.at gh604 is_82 rfl)
              have c605 := (my_up_self fh604)
              exact w_vret gz_49_86 gm_49 (k0 h604 (gh604) (by omega) (by omega) (by first | exact Lo_h604 | exact ⟨st.1, st.2.1, st.2.2.2.2⟩ | exact Or.inl ⟨by omega, zF, st.2.2.1, st.2.2.2.1⟩ | exact Or.inr (Or.inr (Or.inl ⟨by omega, by omega, zC, st.2.2.1, st.2.2.2.1⟩)) | exact Or.inr (Or.inr (Or.inr (Or.inl ⟨by omega, by omega, zW, st.2.2.2.1⟩))) | exact Or.inr (Or.inr (Or.inr (Or.inr (Or.inl ⟨by omega, by omega, zJ, fun _ => st.2.2.1, st.2.2.2.1⟩)))) | exact Or.inr (Or.inr (Or.inr (Or.inr (Or.inr (Or.inl ⟨by omega, by omega, zS, st.2.2.1, st.2.2.2.1⟩))))) | exact ⟨_, _, _, Or.inl ⟨by omega, zF, rfl, rfl⟩⟩ | exact ⟨_, _, _, Or.inr (Or.inr (Or.inl ⟨by omega, by omega, zC, rfl, rfl⟩))⟩ | exact ⟨_, _, _, Or.inr (Or.inr (Or.inr (Or.inl ⟨by omega, by omega, zW, rfl⟩)))⟩ | exact ⟨_, _, _, Or.inr (Or.inr (Or.inr (Or.inr (Or.inl ⟨by omega, by omega, zJ, fun q => absurd q (by omega), rfl⟩))))⟩ | exact ⟨_, _, _, Or.inr (Or.inr (Or.inr (Or.inr (Or.inr (Or.inl ⟨by omega, by omega, zS, rfl, rfl⟩)))))⟩ | exact ⟨0, 0, 0, Or.inr (Or.inl ⟨by omega, by omega, by omega⟩)⟩ | exact ⟨0, 0, 0, Or.inr (Or.inr (Or.inr (Or.inr (Or.inr (Or.inr ⟨by omega, by omega, by omega, by omega, by omega, by omega⟩)))))⟩ | (exfalso; omega) | omega) (by first | exact Lo_h604 | exact ⟨st.1, st.2.1, st.2.2.2.2⟩ | exact Or.inl ⟨by omega, zF, st.2.2.1, st.2.2.2.1⟩ | exact Or.inr (Or.inr (Or.inl ⟨by omega, by omega, zC, st.2.2.1, st.2.2.2.1⟩)) | exact Or.inr (Or.inr (Or.inr (Or.inl ⟨by omega, by omega, zW, st.2.2.2.1⟩))) | exact Or.inr (Or.inr (Or.inr (Or.inr (Or.inl ⟨by omega, by omega, zJ, fun _ => st.2.2.1, st.2.2.2.1⟩)))) | exact Or.inr (Or.inr (Or.inr (Or.inr (Or.inr (Or.inl ⟨by omega, by omega, zS, st.2.2.1, st.2.2.2.1⟩))))) | exact ⟨_, _, _, Or.inl ⟨by omega, zF, rfl, rfl⟩⟩ | exact ⟨_, _, _, Or.inr (Or.inr (Or.inl ⟨by omega, by omega, zC, rfl, rfl⟩))⟩ | exact ⟨_, _, _, Or.inr (Or.inr (Or.inr (Or.inl ⟨by omega, by omega, zW, rfl⟩)))⟩ | exact ⟨_, _, _, Or.inr (Or.inr (Or.inr (Or.inr (Or.inl ⟨by omega, by omega, zJ, fun q => absurd q (by omega), rfl⟩))))⟩ | exact ⟨_, _, _, Or.inr (Or.inr (Or.inr (Or.inr (Or.inr (Or.inl ⟨by omega, by omega, zS, rfl, rfl⟩)))))⟩ | exact ⟨0, 0, 0, Or.inr (Or.inl ⟨by omega, by omega, by omega⟩)⟩ | exact ⟨0, 0, 0, Or.inr (Or.inr (Or.inr (Or.inr (Or.inr (Or.inr ⟨by omega, by omega, by omega, by omega, by omega, by omega⟩)))))⟩ | (exfalso; omega) | omega) Ln_h604 Sp_h604 Al_h604 Cu_h604)
          ·
            show wp l rho (d + 7) 49 35 [(2, 82), (0, 0), (0, 1), (0, 0), (0, 1), (9, 0)] [(0, 1)] h Q
            rw [show wc ((8 : Nat) : Int) = 26801 from by decide] at xp557
            refine w_istore (ls' := [(2, 82), (0, 0), (0, 1), (0, 0), (0, 1), (0, 1)]) gz_49_35 gm_49 rfl rfl rfl ?_
            refine w_iload_n gz_49_37 rfl ?_
            refine w_ifne (t := 65) gz_49_38 rfl (fun u606 => by exfalso; omega) (fun u606 => ?_)
            refine w_iload_n gz_49_41 rfl ?_
            refine w_ifne (t := 65) gz_49_42 rfl (fun u607 => ?_) (fun u607 => by exfalso; omega)
            refine w_iload_n gz_49_65 rfl ?_
            refine w_ifne (t := 87) gz_49_66 rfl (fun u608 => by exfalso; omega) (fun u608 => ?_)
            refine w_aload_n gz_49_69 rfl ?_
            refine v_getR (j := 2) gz_49_70 rfl is_82 rd_5 rfl (fun v609 ev609 tv609 => ?_)
            have sE73 : v609 = h 82 2 := by first | assumption | omega
            refine v_getI (j := 9) gz_49_73 rfl tv609 rd_4 rfl (fun v610 ev610 pv610 qv610 => ?_)
            have c76 : v610 = h (h 82 2) 9 := by rw [← sE73]; omega
            refine w_bipush gz_49_76 (by decide) ?_
            refine w_iclt (t := 87) gz_49_78 rfl (fun u611 => ?_) (fun u611 => ?_)
            ·
              have St5_ht612 : St5 h := ⟨by subst_vars; omega, by subst_vars; omega⟩
              refine w_aload_n gz_49_87 rfl ?_
              refine w_inv (k := 2) (as := []) (r := []) (x := 82) (ls0 := [(2, 82), (9, 0), (9, 0)]) gz_49_88 gm_37 rfl is_82 rd_5 rfl rfl rfl rfl rfl (c_Reader_nextToken9_f0 (d := (d + 5))  (cf.trans (by omega)) n_Al (fun h613 frh613 w614 w615 w616 xp617 xp618 Al_h613t619 Cu_h613t620 => ?_))
              have gh613 : my_fr [(4, 4), (4, 5), (4, 6), (4, 7), (4, 8), (4, 9), (5, 5), (5, 6), (5, 7), (5, 8), (5, 9), (32, -1), (33, -1), (34, -1), (35, -1), (36, -1), (37, -1), (38, -1), (39, -1)] h h613 := my_fr.tr my_fr.rf (frh613.mo rfl)
              have Ln_h613 : Ln h613 := Ln_ag (my_ag.fr frh613 rfl) n_Ln
              have Sp_h613 : Sp h613 wv := Sp_ag (my_ag.fr frh613 rfl) hwv n_Ln n_Sp
              have Lo_h613 : Lo h h613 := Lo_ag (my_ag.fr frh613 rfl) n_Ln (Lo_rf)
              have St5_h613 : St5 h613 := St5_ag (my_ag.fr frh613 rfl) n_Ln St5_ht612
              show wp l rho (d + 7) 49 91 [(2, 82), (0, 0), (0, 1), (0, 0), (0, 1), (0, 1)] [] h613 Q
              have xc621 := xp617 n_Cu
              have ck622 := Cu_s Cu_h613t620
              rw [show cs h613 = cs h from cs_eq (fun j => my_fr.at gh613 is_92 rfl) (my_fr.at gh613 is_82 rfl)] at ck622
              rw [show h613 82 7 = (sN (cs h) (h 82 7)) from xc621] at ck622
              refine w_iload_n gz_49_91 rfl ?_
              refine w_ifeq (t := 102) gz_49_92 rfl (fun u623 => ?_) (fun u623 => by exfalso; omega)
              refine w_iload_n gz_49_102 rfl ?_
              refine w_ifeq (t := 113) gz_49_103 rfl (fun u624 => by exfalso; omega) (fun u624 => ?_)
              refine w_aload_n gz_49_106 rfl ?_
              refine w_inv (k := 3) (as := []) (r := []) (x := 82) (ls0 := [(2, 82), (9, 0), (9, 0), (9, 0)]) gz_49_107 gm_52 rfl is_82 rd_5 rfl rfl rfl rfl rfl (c_Reader_readCut9_f0 (d := (d + 1))  (wv := wv) (((my_fr.at frh613 is_82 rfl).trans cf).trans (by omega)) (by first | assumption | omega) (by first | assumption | omega) Ln_h613 Sp_h613 St5_h613 Al_h613t619 Cu_h613t620 (fun h625 frh625 w626 w627 xp628 Ln_h625t629 Sp_h625t630 Al_h625t631 Cu_h625t632 => ?_) (fun h633 frh633 w634 xp635 xp636 Ln_h633t637 Sp_h633t638 Al_h633t639 Cu_h633t640 => ?_))
              ·
                have gh625 : my_fr [(4, 4), (4, 5), (4, 6), (4, 7), (4, 8), (4, 9), (5, 5), (5, 6), (5, 7), (5, 8), (5, 9), (32, -1), (33, -1), (34, -1), (35, -1), (36, -1), (37, -1), (38, -1), (39, -1)] h h625 := my_fr.tr gh613 (frh625.mo rfl)
                have Lo_h625 : Lo h h625 := Lo_ag (my_ag.fr frh625 rfl) Ln_h613 Lo_h613
                show wp l rho (d + 7) 49 110 [(2, 82), (0, 0), (0, 1), (0, 0), (0, 1), (0, 1)] [] h625 Q
                have tE641 : cs h613 = cs h := cs_eq (fun j => my_fr.at gh613 is_92 rfl) (my_fr.at gh613 is_82 rfl)
                rw [tE641] at xp628
                have ps642 : h613 82 7 = (sN (cs h) (h 82 7)) := xc621
                rw [ps642] at xp628
                have ck643 := Cu_s Cu_h625t632
                rw [show cs h625 = cs h from cs_eq (fun j => my_fr.at gh625 is_92 rfl) (my_fr.at gh625 is_82 rfl)] at ck643
                have q2 : h613 82 2 = h 82 2 := my_fr.at frh613 is_82 rfl
                have q11 : h613 (h 82 2) 1 = h (h 82 2) 1 := my_fr.at frh613 n_Ln.2.2.2.1 rfl
                have q13 : h613 (h 82 2) 3 = h (h 82 2) 3 := my_fr.at frh613 n_Ln.2.2.2.1 rfl
                have q14 : h613 (h 82 2) 4 = h (h 82 2) 4 := my_fr.at frh613 n_Ln.2.2.2.1 rfl
                have q19 : h613 (h 82 2) 9 = h (h 82 2) 9 := my_fr.at frh613 n_Ln.2.2.2.1 rfl
                have qc : h613 2 = h 2 := funext (fun j => my_fr.at frh613 is_2 rfl)
                have zC := xp628
                simp only [q2, q11, q13, q14, q19, qc] at zC
                refine w_goto (t := 140) gz_49_110 rfl ?_
                have psR : h625 82 7 = h625 82 7 := (rfl : h625 82 7 = h625 82 7)
                have npsR : cs h625 = cs h := cs_eq (fun j => my_fr.at gh625 is_92 rfl) (my_fr.at gh625 is_82 rfl)
                have c644 := (rfl : h625 82 9 = h625 82 9)
                exact w_vret gz_49_140 gm_49 (k0 h625 (gh625) (by omega) (by omega) (by first | exact Lo_h625 | exact ⟨st.1, st.2.1, st.2.2.2.2⟩ | exact Or.inl ⟨by omega, zF, st.2.2.1, st.2.2.2.1⟩ | exact Or.inr (Or.inr (Or.inl ⟨by omega, by omega, zC, st.2.2.1, st.2.2.2.1⟩)) | exact Or.inr (Or.inr (Or.inr (Or.inl ⟨by omega, by omega, zW, st.2.2.2.1⟩))) | exact Or.inr (Or.inr (Or.inr (Or.inr (Or.inl ⟨by omega, by omega, zJ, fun _ => st.2.2.1, st.2.2.2.1⟩)))) | exact Or.inr (Or.inr (Or.inr (Or.inr (Or.inr (Or.inl ⟨by omega, by omega, zS, st.2.2.1, st.2.2.2.1⟩))))) | exact ⟨_, _, _, Or.inl ⟨by omega, zF, rfl, rfl⟩⟩ | exact ⟨_, _, _, Or.inr (Or.inr (Or.inl ⟨by omega, by omega, zC, rfl, rfl⟩))⟩ | exact ⟨_, _, _, Or.inr (Or.inr (Or.inr (Or.inl ⟨by omega, by omega, zW, rfl⟩)))⟩ | exact ⟨_, _, _, Or.inr (Or.inr (Or.inr (Or.inr (Or.inl ⟨by omega, by omega, zJ, fun q => absurd q (by omega), rfl⟩))))⟩ | exact ⟨_, _, _, Or.inr (Or.inr (Or.inr (Or.inr (Or.inr (Or.inl ⟨by omega, by omega, zS, rfl, rfl⟩)))))⟩ | exact ⟨0, 0, 0, Or.inr (Or.inl ⟨by omega, by omega, by omega⟩)⟩ | exact ⟨0, 0, 0, Or.inr (Or.inr (Or.inr (Or.inr (Or.inr (Or.inr ⟨by omega, by omega, by omega, by omega, by omega, by omega⟩)))))⟩ | (exfalso; omega) | omega) (by first | exact Lo_h625 | exact ⟨st.1, st.2.1, st.2.2.2.2⟩ | exact Or.inl ⟨by omega, zF, st.2.2.1, st.2.2.2.1⟩ | exact Or.inr (Or.inr (Or.inl ⟨by omega, by omega, zC, st.2.2.1, st.2.2.2.1⟩)) | exact Or.inr (Or.inr (Or.inr (Or.inl ⟨by omega, by omega, zW, st.2.2.2.1⟩))) | exact Or.inr (Or.inr (Or.inr (Or.inr (Or.inl ⟨by omega, by omega, zJ, fun _ => st.2.2.1, st.2.2.2.1⟩)))) | exact Or.inr (Or.inr (Or.inr (Or.inr (Or.inr (Or.inl ⟨by omega, by omega, zS, st.2.2.1, st.2.2.2.1⟩))))) | exact ⟨_, _, _, Or.inl ⟨by omega, zF, rfl, rfl⟩⟩ | exact ⟨_, _, _, Or.inr (Or.inr (Or.inl ⟨by omega, by omega, zC, rfl, rfl⟩))⟩ | exact ⟨_, _, _, Or.inr (Or.inr (Or.inr (Or.inl ⟨by omega, by omega, zW, rfl⟩)))⟩ | exact ⟨_, _, _, Or.inr (Or.inr (Or.inr (Or.inr (Or.inl ⟨by omega, by omega, zJ, fun q => absurd q (by omega), rfl⟩))))⟩ | exact ⟨_, _, _, Or.inr (Or.inr (Or.inr (Or.inr (Or.inr (Or.inl ⟨by omega, by omega, zS, rfl, rfl⟩)))))⟩ | exact ⟨0, 0, 0, Or.inr (Or.inl ⟨by omega, by omega, by omega⟩)⟩ | exact ⟨0, 0, 0, Or.inr (Or.inr (Or.inr (Or.inr (Or.inr (Or.inr ⟨by omega, by omega, by omega, by omega, by omega, by omega⟩)))))⟩ | (exfalso; omega) | omega) Ln_h625t629 Sp_h625t630 Al_h625t631 Cu_h625t632)
              ·
                have gh633 : my_fr [(4, 4), (4, 5), (4, 6), (4, 7), (4, 8), (4, 9), (5, 5), (5, 6), (5, 7), (5, 8), (5, 9), (32, -1), (33, -1), (34, -1), (35, -1), (36, -1), (37, -1), (38, -1), (39, -1)] h h633 := my_fr.tr gh613 (frh633.mo rfl)
                have Lo_h633 : Lo h h633 := Lo_ag (my_ag.fr frh633 rfl) Ln_h613 Lo_h613
                show wp l rho (d + 7) 49 110 [(2, 82), (0, 0), (0, 1), (0, 0), (0, 1), (0, 1)] [] h633 Q
                have tE645 : cs h613 = cs h := cs_eq (fun j => my_fr.at gh613 is_92 rfl) (my_fr.at gh613 is_82 rfl)
                rw [tE645] at xp635
                have ps646 : h613 82 7 = (sN (cs h) (h 82 7)) := xc621
                rw [ps646] at xp635
                have ck647 := Cu_s Cu_h633t640
                rw [show cs h633 = cs h from cs_eq (fun j => my_fr.at gh633 is_92 rfl) (my_fr.at gh633 is_82 rfl)] at ck647
                have q2 : h613 82 2 = h 82 2 := my_fr.at frh613 is_82 rfl
                have q11 : h613 (h 82 2) 1 = h (h 82 2) 1 := my_fr.at frh613 n_Ln.2.2.2.1 rfl
                have q13 : h613 (h 82 2) 3 = h (h 82 2) 3 := my_fr.at frh613 n_Ln.2.2.2.1 rfl
                have q14 : h613 (h 82 2) 4 = h (h 82 2) 4 := my_fr.at frh613 n_Ln.2.2.2.1 rfl
                have q19 : h613 (h 82 2) 9 = h (h 82 2) 9 := my_fr.at frh613 n_Ln.2.2.2.1 rfl
                have qc : h613 2 = h 2 := funext (fun j => my_fr.at frh613 is_2 rfl)
                have zC := xp635
                simp only [q2, q11, q13, q14, q19, qc] at zC
                have st := xp636
                unfold Std at st
                simp only [q2, q11, q13, q14, q19, qc] at st
                refine w_goto (t := 140) gz_49_110 rfl ?_
                have psR : h633 82 7 = h633 82 7 := (rfl : h633 82 7 = h633 82 7)
                have npsR : cs h633 = cs h := cs_eq (fun j => my_fr.at gh633 is_92 rfl) (my_fr.at gh633 is_82 rfl)
                have c648 := w634
                exact w_vret gz_49_140 gm_49 (k1 h633 (gh633) (by omega) (by first | exact Lo_h633 | exact ⟨st.1, st.2.1, st.2.2.2.2⟩ | exact Or.inl ⟨by omega, zF, st.2.2.1, st.2.2.2.1⟩ | exact Or.inr (Or.inr (Or.inl ⟨by omega, by omega, zC, st.2.2.1, st.2.2.2.1⟩)) | exact Or.inr (Or.inr (Or.inr (Or.inl ⟨by omega, by omega, zW, st.2.2.2.1⟩))) | exact Or.inr (Or.inr (Or.inr (Or.inr (Or.inl ⟨by omega, by omega, zJ, fun _ => st.2.2.1, st.2.2.2.1⟩)))) | exact Or.inr (Or.inr (Or.inr (Or.inr (Or.inr (Or.inl ⟨by omega, by omega, zS, st.2.2.1, st.2.2.2.1⟩))))) | exact ⟨_, _, _, Or.inl ⟨by omega, zF, rfl, rfl⟩⟩ | exact ⟨_, _, _, Or.inr (Or.inr (Or.inl ⟨by omega, by omega, zC, rfl, rfl⟩))⟩ | exact ⟨_, _, _, Or.inr (Or.inr (Or.inr (Or.inl ⟨by omega, by omega, zW, rfl⟩)))⟩ | exact ⟨_, _, _, Or.inr (Or.inr (Or.inr (Or.inr (Or.inl ⟨by omega, by omega, zJ, fun q => absurd q (by omega), rfl⟩))))⟩ | exact ⟨_, _, _, Or.inr (Or.inr (Or.inr (Or.inr (Or.inr (Or.inl ⟨by omega, by omega, zS, rfl, rfl⟩)))))⟩ | exact ⟨0, 0, 0, Or.inr (Or.inl ⟨by omega, by omega, by omega⟩)⟩ | exact ⟨0, 0, 0, Or.inr (Or.inr (Or.inr (Or.inr (Or.inr (Or.inr ⟨by omega, by omega, by omega, by omega, by omega, by omega⟩)))))⟩ | (exfalso; omega) | omega) (by first | exact Lo_h633 | exact ⟨st.1, st.2.1, st.2.2.2.2⟩ | exact Or.inl ⟨by omega, zF, st.2.2.1, st.2.2.2.1⟩ | exact Or.inr (Or.inr (Or.inl ⟨by omega, by omega, zC, st.2.2.1, st.2.2.2.1⟩)) | exact Or.inr (Or.inr (Or.inr (Or.inl ⟨by omega, by omega, zW, st.2.2.2.1⟩))) | exact Or.inr (Or.inr (Or.inr (Or.inr (Or.inl ⟨by omega, by omega, zJ, fun _ => st.2.2.1, st.2.2.2.1⟩)))) | exact Or.inr (Or.inr (Or.inr (Or.inr (Or.inr (Or.inl ⟨by omega, by omega, zS, st.2.2.1, st.2.2.2.1⟩))))) | exact ⟨_, _, _, Or.inl ⟨by omega, zF, rfl, rfl⟩⟩ | exact ⟨_, _, _, Or.inr (Or.inr (Or.inl ⟨by omega, by omega, zC, rfl, rfl⟩))⟩ | exact ⟨_, _, _, Or.inr (Or.inr (Or.inr (Or.inl ⟨by omega, by omega, zW, rfl⟩)))⟩ | exact ⟨_, _, _, Or.inr (Or.inr (Or.inr (Or.inr (Or.inl ⟨by omega, by omega, zJ, fun q => absurd q (by omega), rfl⟩))))⟩ | exact ⟨_, _, _, Or.inr (Or.inr (Or.inr (Or.inr (Or.inr (Or.inl ⟨by omega, by omega, zS, rfl, rfl⟩)))))⟩ | exact ⟨0, 0, 0, Or.inr (Or.inl ⟨by omega, by omega, by omega⟩)⟩ | exact ⟨0, 0, 0, Or.inr (Or.inr (Or.inr (Or.inr (Or.inr (Or.inr ⟨by omega, by omega, by omega, by omega, by omega, by omega⟩)))))⟩ | (exfalso; omega) | omega) (by first | exact Lo_h633 | exact ⟨st.1, st.2.1, st.2.2.2.2⟩ | exact Or.inl ⟨by omega, zF, st.2.2.1, st.2.2.2.1⟩ | exact Or.inr (Or.inr (Or.inl ⟨by omega, by omega, zC, st.2.2.1, st.2.2.2.1⟩)) | exact Or.inr (Or.inr (Or.inr (Or.inl ⟨by omega, by omega, zW, st.2.2.2.1⟩))) | exact Or.inr (Or.inr (Or.inr (Or.inr (Or.inl ⟨by omega, by omega, zJ, fun _ => st.2.2.1, st.2.2.2.1⟩)))) | exact Or.inr (Or.inr (Or.inr (Or.inr (Or.inr (Or.inl ⟨by omega, by omega, zS, st.2.2.1, st.2.2.2.1⟩))))) | exact ⟨_, _, _, Or.inl ⟨by omega, zF, rfl, rfl⟩⟩ | exact ⟨_, _, _, Or.inr (Or.inr (Or.inl ⟨by omega, by omega, zC, rfl, rfl⟩))⟩ | exact ⟨_, _, _, Or.inr (Or.inr (Or.inr (Or.inl ⟨by omega, by omega, zW, rfl⟩)))⟩ | exact ⟨_, _, _, Or.inr (Or.inr (Or.inr (Or.inr (Or.inl ⟨by omega, by omega, zJ, fun q => absurd q (by omega), rfl⟩))))⟩ | exact ⟨_, _, _, Or.inr (Or.inr (Or.inr (Or.inr (Or.inr (Or.inl ⟨by omega, by omega, zS, rfl, rfl⟩)))))⟩ | exact ⟨0, 0, 0, Or.inr (Or.inl ⟨by omega, by omega, by omega⟩)⟩ | exact ⟨0, 0, 0, Or.inr (Or.inr (Or.inr (Or.inr (Or.inr (Or.inr ⟨by omega, by omega, by omega, by omega, by omega, by omega⟩)))))⟩ | (exfalso; omega) | omega) Ln_h633t637 Sp_h633t638 Al_h633t639 Cu_h633t640)
            ·
              refine w_aload_n gz_49_81 rfl ?_
              refine w_iconst gz_49_82 (by decide) ?_
              refine w_inv (k := 0) (as := [(0, 5)]) (r := []) (x := 82) (ls0 := [(2, 82), (0, 5)]) gz_49_83 gm_42 rfl is_82 rd_5 rfl rfl rfl rfl rfl ?_
              refine w_aload_n gz_42_0 rfl ?_
              refine v_getI (j := 9) gz_42_1 rfl is_82 rd_5 rfl (fun v649 ev649 pv649 qv649 => ?_)
              have zv649 := ev649.trans cf
              refine w_ifne (t := 20) gz_42_4 rfl (fun u650 => by exfalso; omega) (fun u650 => ?_)
              refine w_aload_n gz_42_7 rfl ?_
              refine w_iload_n gz_42_8 rfl ?_
              refine w_bipush gz_42_9 (by decide) ?_
              refine w_aload_n gz_42_11 rfl ?_
              refine v_getI (j := 7) gz_42_12 rfl is_82 rd_5 rfl (fun v651 ev651 pv651 qv651 => ?_)
              refine w_imul gz_42_15 ⟨by omega, by omega⟩ ?_
              refine w_iadd gz_42_16 ⟨by omega, by omega⟩ ?_
              refine v_putI (j := 9) gz_42_17 rfl is_82 rd_5 rfl (by omega) (by omega) rfl (fun h652 fh652 => ?_)
              have gh652 : my_fr [(4, 4), (4, 5), (4, 6), (4, 7), (4, 8), (4, 9), (5, 5), (5, 6), (5, 7), (5, 8), (5, 9), (32, -1), (33, -1), (34, -1), (35, -1), (36, -1), (37, -1), (38, -1), (39, -1)] h h652 := my_fr.up my_fr.rf is_82 fh652 rfl
              have Ln_h652 : Ln h652 := Ln_ag (my_ag.up fh652 is_82 rfl) n_Ln
              have Sp_h652 : Sp h652 wv := Sp_ag (my_ag.up fh652 is_82 rfl) hwv n_Ln n_Sp
              have Al_h652 : Al h652 := Al_ag (my_ag.up fh652 is_82 rfl) n_Al
              have Cu_h652 : Cu h652 := Cu_ag (my_ag.up fh652 is_82 rfl) n_Cu
              have Lo_h652 : Lo h h652 := Lo_ag (my_ag.up fh652 is_82 rfl) n_Ln (Lo_rf)
              refine w_vret gz_42_20 gm_42 ?_
              show wp l rho (d + 7) 49 86 [(2, 82), (0, 0), (0, 1), (0, 0), (0, 1), (0, 1)] [] h652 Q
              have psR : h652 82 7 = h 82 7 := ((my_up_fld fh652 (by decide)).trans (rfl : h 82 7 = h 82 7))
              have npsR : cs h652 = cs h := cs_eq (fun j => my_fr.at gh652 is_92 rfl) (my_fr.at gh652 is_82 rfl)
              have c653 := (my_up_self fh652)
              exact w_vret gz_49_86 gm_49 (k0 h652 (gh652) (by omega) (by omega) (by first | exact Lo_h652 | exact ⟨st.1, st.2.1, st.2.2.2.2⟩ | exact Or.inl ⟨by omega, zF, st.2.2.1, st.2.2.2.1⟩ | exact Or.inr (Or.inr (Or.inl ⟨by omega, by omega, zC, st.2.2.1, st.2.2.2.1⟩)) | exact Or.inr (Or.inr (Or.inr (Or.inl ⟨by omega, by omega, zW, st.2.2.2.1⟩))) | exact Or.inr (Or.inr (Or.inr (Or.inr (Or.inl ⟨by omega, by omega, zJ, fun _ => st.2.2.1, st.2.2.2.1⟩)))) | exact Or.inr (Or.inr (Or.inr (Or.inr (Or.inr (Or.inl ⟨by omega, by omega, zS, st.2.2.1, st.2.2.2.1⟩))))) | exact ⟨_, _, _, Or.inl ⟨by omega, zF, rfl, rfl⟩⟩ | exact ⟨_, _, _, Or.inr (Or.inr (Or.inl ⟨by omega, by omega, zC, rfl, rfl⟩))⟩ | exact ⟨_, _, _, Or.inr (Or.inr (Or.inr (Or.inl ⟨by omega, by omega, zW, rfl⟩)))⟩ | exact ⟨_, _, _, Or.inr (Or.inr (Or.inr (Or.inr (Or.inl ⟨by omega, by omega, zJ, fun q => absurd q (by omega), rfl⟩))))⟩ | exact ⟨_, _, _, Or.inr (Or.inr (Or.inr (Or.inr (Or.inr (Or.inl ⟨by omega, by omega, zS, rfl, rfl⟩)))))⟩ | exact ⟨0, 0, 0, Or.inr (Or.inl ⟨by omega, by omega, by omega⟩)⟩ | exact ⟨0, 0, 0, Or.inr (Or.inr (Or.inr (Or.inr (Or.inr (Or.inr ⟨by omega, by omega, by omega, by omega, by omega, by omega⟩)))))⟩ | (exfalso; omega) | omega) (by first | exact Lo_h652 | exact ⟨st.1, st.2.1, st.2.2.2.2⟩ | exact Or.inl ⟨by omega, zF, st.2.2.1, st.2.2.2.1⟩ | exact Or.inr (Or.inr (Or.inl ⟨by omega, by omega, zC, st.2.2.1, st.2.2.2.1⟩)) | exact Or.inr (Or.inr (Or.inr (Or.inl ⟨by omega, by omega, zW, st.2.2.2.1⟩))) | exact Or.inr (Or.inr (Or.inr (Or.inr (Or.inl ⟨by omega, by omega, zJ, fun _ => st.2.2.1, st.2.2.2.1⟩)))) | exact Or.inr (Or.inr (Or.inr (Or.inr (Or.inr (Or.inl ⟨by omega, by omega, zS, st.2.2.1, st.2.2.2.1⟩))))) | exact ⟨_, _, _, Or.inl ⟨by omega, zF, rfl, rfl⟩⟩ | exact ⟨_, _, _, Or.inr (Or.inr (Or.inl ⟨by omega, by omega, zC, rfl, rfl⟩))⟩ | exact ⟨_, _, _, Or.inr (Or.inr (Or.inr (Or.inl ⟨by omega, by omega, zW, rfl⟩)))⟩ | exact ⟨_, _, _, Or.inr (Or.inr (Or.inr (Or.inr (Or.inl ⟨by omega, by omega, zJ, fun q => absurd q (by omega), rfl⟩))))⟩ | exact ⟨_, _, _, Or.inr (Or.inr (Or.inr (Or.inr (Or.inr (Or.inl ⟨by omega, by omega, zS, rfl, rfl⟩)))))⟩ | exact ⟨0, 0, 0, Or.inr (Or.inl ⟨by omega, by omega, by omega⟩)⟩ | exact ⟨0, 0, 0, Or.inr (Or.inr (Or.inr (Or.inr (Or.inr (Or.inr ⟨by omega, by omega, by omega, by omega, by omega, by omega⟩)))))⟩ | (exfalso; omega) | omega) Ln_h652 Sp_h652 Al_h652 Cu_h652)
      ·
        show wp l rho (d + 7) 49 20 [(2, 82), (0, 0), (0, 1), (9, 0), (9, 0), (9, 0)] [(0, 1)] h Q
        rw [show wc ((6 : Nat) : Int) = 8422 from by decide] at xp446
        refine w_istore_n (ls' := [(2, 82), (0, 0), (0, 1), (0, 1), (9, 0), (9, 0)]) gz_49_20 gm_49 rfl rfl rfl ?_
        refine w_aload_n gz_49_21 rfl ?_
        refine w_ldcS gz_49_22 (by decide) ?_
        refine w_inv (k := 1) (as := [(3, ((7 : Nat) : Int))]) (r := []) (x := 82) (ls0 := [(2, 82), (3, ((7 : Nat) : Int)), (9, 0)]) gz_49_24 gm_41 rfl is_82 rd_5 rfl rfl rfl rfl rfl (c_Reader_isWord9_f0 (d := (d + 2)) (x1 := ((7 : Nat) : Int)) (by decide) (cf.trans (by omega)) n_Cu (fun w654 xp655 => ?_) (fun w656 w657 xp658 => ?_))
        ·
          show wp l rho (d + 7) 49 27 [(2, 82), (0, 0), (0, 1), (0, 1), (9, 0), (9, 0)] [(0, 0)] h Q
          rw [show wc ((7 : Nat) : Int) = 527412 from by decide] at xp655
          refine w_istore (ls' := [(2, 82), (0, 0), (0, 1), (0, 1), (0, 0), (9, 0)]) gz_49_27 gm_49 rfl rfl rfl ?_
          refine w_aload_n gz_49_29 rfl ?_
          refine w_ldcS gz_49_30 (by decide) ?_
          refine w_inv (k := 1) (as := [(3, ((8 : Nat) : Int))]) (r := []) (x := 82) (ls0 := [(2, 82), (3, ((8 : Nat) : Int)), (9, 0)]) gz_49_32 gm_41 rfl is_82 rd_5 rfl rfl rfl rfl rfl (c_Reader_isWord9_f0 (d := (d + 2)) (x1 := ((8 : Nat) : Int)) (by decide) (cf.trans (by omega)) n_Cu (fun w659 xp660 => ?_) (fun w661 w662 xp663 => ?_))
          ·
            show wp l rho (d + 7) 49 35 [(2, 82), (0, 0), (0, 1), (0, 1), (0, 0), (9, 0)] [(0, 0)] h Q
            rw [show wc ((8 : Nat) : Int) = 26801 from by decide] at xp660
            refine w_istore (ls' := [(2, 82), (0, 0), (0, 1), (0, 1), (0, 0), (0, 0)]) gz_49_35 gm_49 rfl rfl rfl ?_
            refine w_iload_n gz_49_37 rfl ?_
            refine w_ifne (t := 65) gz_49_38 rfl (fun u664 => by exfalso; omega) (fun u664 => ?_)
            refine w_iload_n gz_49_41 rfl ?_
            refine w_ifne (t := 65) gz_49_42 rfl (fun u665 => ?_) (fun u665 => by exfalso; omega)
            refine w_iload_n gz_49_65 rfl ?_
            refine w_ifne (t := 87) gz_49_66 rfl (fun u666 => by exfalso; omega) (fun u666 => ?_)
            refine w_aload_n gz_49_69 rfl ?_
            refine v_getR (j := 2) gz_49_70 rfl is_82 rd_5 rfl (fun v667 ev667 tv667 => ?_)
            have sE73 : v667 = h 82 2 := by first | assumption | omega
            refine v_getI (j := 9) gz_49_73 rfl tv667 rd_4 rfl (fun v668 ev668 pv668 qv668 => ?_)
            have c76 : v668 = h (h 82 2) 9 := by rw [← sE73]; omega
            refine w_bipush gz_49_76 (by decide) ?_
            refine w_iclt (t := 87) gz_49_78 rfl (fun u669 => ?_) (fun u669 => ?_)
            ·
              have St5_ht670 : St5 h := ⟨by subst_vars; omega, by subst_vars; omega⟩
              refine w_aload_n gz_49_87 rfl ?_
              refine w_inv (k := 2) (as := []) (r := []) (x := 82) (ls0 := [(2, 82), (9, 0), (9, 0)]) gz_49_88 gm_37 rfl is_82 rd_5 rfl rfl rfl rfl rfl (c_Reader_nextToken9_f0 (d := (d + 5))  (cf.trans (by omega)) n_Al (fun h671 frh671 w672 w673 w674 xp675 xp676 Al_h671t677 Cu_h671t678 => ?_))
              have gh671 : my_fr [(4, 4), (4, 5), (4, 6), (4, 7), (4, 8), (4, 9), (5, 5), (5, 6), (5, 7), (5, 8), (5, 9), (32, -1), (33, -1), (34, -1), (35, -1), (36, -1), (37, -1), (38, -1), (39, -1)] h h671 := my_fr.tr my_fr.rf (frh671.mo rfl)
              have Ln_h671 : Ln h671 := Ln_ag (my_ag.fr frh671 rfl) n_Ln
              have Sp_h671 : Sp h671 wv := Sp_ag (my_ag.fr frh671 rfl) hwv n_Ln n_Sp
              have Lo_h671 : Lo h h671 := Lo_ag (my_ag.fr frh671 rfl) n_Ln (Lo_rf)
              have St5_h671 : St5 h671 := St5_ag (my_ag.fr frh671 rfl) n_Ln St5_ht670
              show wp l rho (d + 7) 49 91 [(2, 82), (0, 0), (0, 1), (0, 1), (0, 0), (0, 0)] [] h671 Q
              have xc679 := xp675 n_Cu
              have ck680 := Cu_s Cu_h671t678
              rw [show cs h671 = cs h from cs_eq (fun j => my_fr.at gh671 is_92 rfl) (my_fr.at gh671 is_82 rfl)] at ck680
              rw [show h671 82 7 = (sN (cs h) (h 82 7)) from xc679] at ck680
              refine w_iload_n gz_49_91 rfl ?_
              refine w_ifeq (t := 102) gz_49_92 rfl (fun u681 => ?_) (fun u681 => by exfalso; omega)
              refine w_iload_n gz_49_102 rfl ?_
              refine w_ifeq (t := 113) gz_49_103 rfl (fun u682 => by exfalso; omega) (fun u682 => ?_)
              refine w_aload_n gz_49_106 rfl ?_
              refine w_inv (k := 3) (as := []) (r := []) (x := 82) (ls0 := [(2, 82), (9, 0), (9, 0), (9, 0)]) gz_49_107 gm_52 rfl is_82 rd_5 rfl rfl rfl rfl rfl (c_Reader_readCut9_f0 (d := (d + 1))  (wv := wv) (((my_fr.at frh671 is_82 rfl).trans cf).trans (by omega)) (by first | assumption | omega) (by first | assumption | omega) Ln_h671 Sp_h671 St5_h671 Al_h671t677 Cu_h671t678 (fun h683 frh683 w684 w685 xp686 Ln_h683t687 Sp_h683t688 Al_h683t689 Cu_h683t690 => ?_) (fun h691 frh691 w692 xp693 xp694 Ln_h691t695 Sp_h691t696 Al_h691t697 Cu_h691t698 => ?_))
              ·
                have gh683 : my_fr [(4, 4), (4, 5), (4, 6), (4, 7), (4, 8), (4, 9), (5, 5), (5, 6), (5, 7), (5, 8), (5, 9), (32, -1), (33, -1), (34, -1), (35, -1), (36, -1), (37, -1), (38, -1), (39, -1)] h h683 := my_fr.tr gh671 (frh683.mo rfl)
                have Lo_h683 : Lo h h683 := Lo_ag (my_ag.fr frh683 rfl) Ln_h671 Lo_h671
                show wp l rho (d + 7) 49 110 [(2, 82), (0, 0), (0, 1), (0, 1), (0, 0), (0, 0)] [] h683 Q
                have tE699 : cs h671 = cs h := cs_eq (fun j => my_fr.at gh671 is_92 rfl) (my_fr.at gh671 is_82 rfl)
                rw [tE699] at xp686
                have ps700 : h671 82 7 = (sN (cs h) (h 82 7)) := xc679
                rw [ps700] at xp686
                have ck701 := Cu_s Cu_h683t690
                rw [show cs h683 = cs h from cs_eq (fun j => my_fr.at gh683 is_92 rfl) (my_fr.at gh683 is_82 rfl)] at ck701
                have q2 : h671 82 2 = h 82 2 := my_fr.at frh671 is_82 rfl
                have q11 : h671 (h 82 2) 1 = h (h 82 2) 1 := my_fr.at frh671 n_Ln.2.2.2.1 rfl
                have q13 : h671 (h 82 2) 3 = h (h 82 2) 3 := my_fr.at frh671 n_Ln.2.2.2.1 rfl
                have q14 : h671 (h 82 2) 4 = h (h 82 2) 4 := my_fr.at frh671 n_Ln.2.2.2.1 rfl
                have q19 : h671 (h 82 2) 9 = h (h 82 2) 9 := my_fr.at frh671 n_Ln.2.2.2.1 rfl
                have qc : h671 2 = h 2 := funext (fun j => my_fr.at frh671 is_2 rfl)
                have zC := xp686
                simp only [q2, q11, q13, q14, q19, qc] at zC
                refine w_goto (t := 140) gz_49_110 rfl ?_
                have psR : h683 82 7 = h683 82 7 := (rfl : h683 82 7 = h683 82 7)
                have npsR : cs h683 = cs h := cs_eq (fun j => my_fr.at gh683 is_92 rfl) (my_fr.at gh683 is_82 rfl)
                have c702 := (rfl : h683 82 9 = h683 82 9)
                exact w_vret gz_49_140 gm_49 (k0 h683 (gh683) (by omega) (by omega) (by first | exact Lo_h683 | exact ⟨st.1, st.2.1, st.2.2.2.2⟩ | exact Or.inl ⟨by omega, zF, st.2.2.1, st.2.2.2.1⟩ | exact Or.inr (Or.inr (Or.inl ⟨by omega, by omega, zC, st.2.2.1, st.2.2.2.1⟩)) | exact Or.inr (Or.inr (Or.inr (Or.inl ⟨by omega, by omega, zW, st.2.2.2.1⟩))) | exact Or.inr (Or.inr (Or.inr (Or.inr (Or.inl ⟨by omega, by omega, zJ, fun _ => st.2.2.1, st.2.2.2.1⟩)))) | exact Or.inr (Or.inr (Or.inr (Or.inr (Or.inr (Or.inl ⟨by omega, by omega, zS, st.2.2.1, st.2.2.2.1⟩))))) | exact ⟨_, _, _, Or.inl ⟨by omega, zF, rfl, rfl⟩⟩ | exact ⟨_, _, _, Or.inr (Or.inr (Or.inl ⟨by omega, by omega, zC, rfl, rfl⟩))⟩ | exact ⟨_, _, _, Or.inr (Or.inr (Or.inr (Or.inl ⟨by omega, by omega, zW, rfl⟩)))⟩ | exact ⟨_, _, _, Or.inr (Or.inr (Or.inr (Or.inr (Or.inl ⟨by omega, by omega, zJ, fun q => absurd q (by omega), rfl⟩))))⟩ | exact ⟨_, _, _, Or.inr (Or.inr (Or.inr (Or.inr (Or.inr (Or.inl ⟨by omega, by omega, zS, rfl, rfl⟩)))))⟩ | exact ⟨0, 0, 0, Or.inr (Or.inl ⟨by omega, by omega, by omega⟩)⟩ | exact ⟨0, 0, 0, Or.inr (Or.inr (Or.inr (Or.inr (Or.inr (Or.inr ⟨by omega, by omega, by omega, by omega, by omega, by omega⟩)))))⟩ | (exfalso; omega) | omega) (by first | exact Lo_h683 | exact ⟨st.1, st.2.1, st.2.2.2.2⟩ | exact Or.inl ⟨by omega, zF, st.2.2.1, st.2.2.2.1⟩ | exact Or.inr (Or.inr (Or.inl ⟨by omega, by omega, zC, st.2.2.1, st.2.2.2.1⟩)) | exact Or.inr (Or.inr (Or.inr (Or.inl ⟨by omega, by omega, zW, st.2.2.2.1⟩))) | exact Or.inr (Or.inr (Or.inr (Or.inr (Or.inl ⟨by omega, by omega, zJ, fun _ => st.2.2.1, st.2.2.2.1⟩)))) | exact Or.inr (Or.inr (Or.inr (Or.inr (Or.inr (Or.inl ⟨by omega, by omega, zS, st.2.2.1, st.2.2.2.1⟩))))) | exact ⟨_, _, _, Or.inl ⟨by omega, zF, rfl, rfl⟩⟩ | exact ⟨_, _, _, Or.inr (Or.inr (Or.inl ⟨by omega, by omega, zC, rfl, rfl⟩))⟩ | exact ⟨_, _, _, Or.inr (Or.inr (Or.inr (Or.inl ⟨by omega, by omega, zW, rfl⟩)))⟩ | exact ⟨_, _, _, Or.inr (Or.inr (Or.inr (Or.inr (Or.inl ⟨by omega, by omega, zJ, fun q => absurd q (by omega), rfl⟩))))⟩ | exact ⟨_, _, _, Or.inr (Or.inr (Or.inr (Or.inr (Or.inr (Or.inl ⟨by omega, by omega, zS, rfl, rfl⟩)))))⟩ | exact ⟨0, 0, 0, Or.inr (Or.inl ⟨by omega, by omega, by omega⟩)⟩ | exact ⟨0, 0, 0, Or.inr (Or.inr (Or.inr (Or.inr (Or.inr (Or.inr ⟨by omega, by omega, by omega, by omega, by omega, by omega⟩)))))⟩ | (exfalso; omega) | omega) Ln_h683t687 Sp_h683t688 Al_h683t689 Cu_h683t690)
              ·
                have gh691 : my_fr [(4, 4), (4, 5), (4, 6), (4, 7), (4, 8), (4, 9), (5, 5), (5, 6), (5, 7), (5, 8), (5, 9), (32, -1), (33, -1), (34, -1), (35, -1), (36, -1), (37, -1), (38, -1), (39, -1)] h h691 := my_fr.tr gh671 (frh691.mo rfl)
                have Lo_h691 : Lo h h691 := Lo_ag (my_ag.fr frh691 rfl) Ln_h671 Lo_h671
                show wp l rho (d + 7) 49 110 [(2, 82), (0, 0), (0, 1), (0, 1), (0, 0), (0, 0)] [] h691 Q
                have tE703 : cs h671 = cs h := cs_eq (fun j => my_fr.at gh671 is_92 rfl) (my_fr.at gh671 is_82 rfl)
                rw [tE703] at xp693
                have ps704 : h671 82 7 = (sN (cs h) (h 82 7)) := xc679
                rw [ps704] at xp693
                have ck705 := Cu_s Cu_h691t698
                rw [show cs h691 = cs h from cs_eq (fun j => my_fr.at gh691 is_92 rfl) (my_fr.at gh691 is_82 rfl)] at ck705
                have q2 : h671 82 2 = h 82 2 := my_fr.at frh671 is_82 rfl
                have q11 : h671 (h 82 2) 1 = h (h 82 2) 1 := my_fr.at frh671 n_Ln.2.2.2.1 rfl
                have q13 : h671 (h 82 2) 3 = h (h 82 2) 3 := my_fr.at frh671 n_Ln.2.2.2.1 rfl
                have q14 : h671 (h 82 2) 4 = h (h 82 2) 4 := my_fr.at frh671 n_Ln.2.2.2.1 rfl
                have q19 : h671 (h 82 2) 9 = h (h 82 2) 9 := my_fr.at frh671 n_Ln.2.2.2.1 rfl
                have qc : h671 2 = h 2 := funext (fun j => my_fr.at frh671 is_2 rfl)
                have zC := xp693
                simp only [q2, q11, q13, q14, q19, qc] at zC
                have st := xp694
                unfold Std at st
                simp only [q2, q11, q13, q14, q19, qc] at st
                refine w_goto (t := 140) gz_49_110 rfl ?_
                have psR : h691 82 7 = h691 82 7 := (rfl : h691 82 7 = h691 82 7)
                have npsR : cs h691 = cs h := cs_eq (fun j => my_fr.at gh691 is_92 rfl) (my_fr.at gh691 is_82 rfl)
                have c706 := w692
                exact w_vret gz_49_140 gm_49 (k1 h691 (gh691) (by omega) (by first | exact Lo_h691 | exact ⟨st.1, st.2.1, st.2.2.2.2⟩ | exact Or.inl ⟨by omega, zF, st.2.2.1, st.2.2.2.1⟩ | exact Or.inr (Or.inr (Or.inl ⟨by omega, by omega, zC, st.2.2.1, st.2.2.2.1⟩)) | exact Or.inr (Or.inr (Or.inr (Or.inl ⟨by omega, by omega, zW, st.2.2.2.1⟩))) | exact Or.inr (Or.inr (Or.inr (Or.inr (Or.inl ⟨by omega, by omega, zJ, fun _ => st.2.2.1, st.2.2.2.1⟩)))) | exact Or.inr (Or.inr (Or.inr (Or.inr (Or.inr (Or.inl ⟨by omega, by omega, zS, st.2.2.1, st.2.2.2.1⟩))))) | exact ⟨_, _, _, Or.inl ⟨by omega, zF, rfl, rfl⟩⟩ | exact ⟨_, _, _, Or.inr (Or.inr (Or.inl ⟨by omega, by omega, zC, rfl, rfl⟩))⟩ | exact ⟨_, _, _, Or.inr (Or.inr (Or.inr (Or.inl ⟨by omega, by omega, zW, rfl⟩)))⟩ | exact ⟨_, _, _, Or.inr (Or.inr (Or.inr (Or.inr (Or.inl ⟨by omega, by omega, zJ, fun q => absurd q (by omega), rfl⟩))))⟩ | exact ⟨_, _, _, Or.inr (Or.inr (Or.inr (Or.inr (Or.inr (Or.inl ⟨by omega, by omega, zS, rfl, rfl⟩)))))⟩ | exact ⟨0, 0, 0, Or.inr (Or.inl ⟨by omega, by omega, by omega⟩)⟩ | exact ⟨0, 0, 0, Or.inr (Or.inr (Or.inr (Or.inr (Or.inr (Or.inr ⟨by omega, by omega, by omega, by omega, by omega, by omega⟩)))))⟩ | (exfalso; omega) | omega) (by first | exact Lo_h691 | exact ⟨st.1, st.2.1, st.2.2.2.2⟩ | exact Or.inl ⟨by omega, zF, st.2.2.1, st.2.2.2.1⟩ | exact Or.inr (Or.inr (Or.inl ⟨by omega, by omega, zC, st.2.2.1, st.2.2.2.1⟩)) | exact Or.inr (Or.inr (Or.inr (Or.inl ⟨by omega, by omega, zW, st.2.2.2.1⟩))) | exact Or.inr (Or.inr (Or.inr (Or.inr (Or.inl ⟨by omega, by omega, zJ, fun _ => st.2.2.1, st.2.2.2.1⟩)))) | exact Or.inr (Or.inr (Or.inr (Or.inr (Or.inr (Or.inl ⟨by omega, by omega, zS, st.2.2.1, st.2.2.2.1⟩))))) | exact ⟨_, _, _, Or.inl ⟨by omega, zF, rfl, rfl⟩⟩ | exact ⟨_, _, _, Or.inr (Or.inr (Or.inl ⟨by omega, by omega, zC, rfl, rfl⟩))⟩ | exact ⟨_, _, _, Or.inr (Or.inr (Or.inr (Or.inl ⟨by omega, by omega, zW, rfl⟩)))⟩ | exact ⟨_, _, _, Or.inr (Or.inr (Or.inr (Or.inr (Or.inl ⟨by omega, by omega, zJ, fun q => absurd q (by omega), rfl⟩))))⟩ | exact ⟨_, _, _, Or.inr (Or.inr (Or.inr (Or.inr (Or.inr (Or.inl ⟨by omega, by omega, zS, rfl, rfl⟩)))))⟩ | exact ⟨0, 0, 0, Or.inr (Or.inl ⟨by omega, by omega, by omega⟩)⟩ | exact ⟨0, 0, 0, Or.inr (Or.inr (Or.inr (Or.inr (Or.inr (Or.inr ⟨by omega, by omega, by omega, by omega, by omega, by omega⟩)))))⟩ | (exfalso; omega) | omega) (by first | exact Lo_h691 | exact ⟨st.1, st.2.1, st.2.2.2.2⟩ | exact Or.inl ⟨by omega, zF, st.2.2.1, st.2.2.2.1⟩ | exact Or.inr (Or.inr (Or.inl ⟨by omega, by omega, zC, st.2.2.1, st.2.2.2.1⟩)) | exact Or.inr (Or.inr (Or.inr (Or.inl ⟨by omega, by omega, zW, st.2.2.2.1⟩))) | exact Or.inr (Or.inr (Or.inr (Or.inr (Or.inl ⟨by omega, by omega, zJ, fun _ => st.2.2.1, st.2.2.2.1⟩)))) | exact Or.inr (Or.inr (Or.inr (Or.inr (Or.inr (Or.inl ⟨by omega, by omega, zS, st.2.2.1, st.2.2.2.1⟩))))) | exact ⟨_, _, _, Or.inl ⟨by omega, zF, rfl, rfl⟩⟩ | exact ⟨_, _, _, Or.inr (Or.inr (Or.inl ⟨by omega, by omega, zC, rfl, rfl⟩))⟩ | exact ⟨_, _, _, Or.inr (Or.inr (Or.inr (Or.inl ⟨by omega, by omega, zW, rfl⟩)))⟩ | exact ⟨_, _, _, Or.inr (Or.inr (Or.inr (Or.inr (Or.inl ⟨by omega, by omega, zJ, fun q => absurd q (by omega), rfl⟩))))⟩ | exact ⟨_, _, _, Or.inr (Or.inr (Or.inr (Or.inr (Or.inr (Or.inl ⟨by omega, by omega, zS, rfl, rfl⟩)))))⟩ | exact ⟨0, 0, 0, Or.inr (Or.inl ⟨by omega, by omega, by omega⟩)⟩ | exact ⟨0, 0, 0, Or.inr (Or.inr (Or.inr (Or.inr (Or.inr (Or.inr ⟨by omega, by omega, by omega, by omega, by omega, by omega⟩)))))⟩ | (exfalso; omega) | omega) Ln_h691t695 Sp_h691t696 Al_h691t697 Cu_h691t698)
            ·
              refine w_aload_n gz_49_81 rfl ?_
              refine w_iconst gz_49_82 (by decide) ?_
              refine w_inv (k := 0) (as := [(0, 5)]) (r := []) (x := 82) (ls0 := [(2, 82), (0, 5)]) gz_49_83 gm_42 rfl is_82 rd_5 rfl rfl rfl rfl rfl ?_
              refine w_aload_n gz_42_0 rfl ?_
              refine v_getI (j := 9) gz_42_1 rfl is_82 rd_5 rfl (fun v707 ev707 pv707 qv707 => ?_)
              have zv707 := ev707.trans cf
              refine w_ifne (t := 20) gz_42_4 rfl (fun u708 => by exfalso; omega) (fun u708 => ?_)
              refine w_aload_n gz_42_7 rfl ?_
              refine w_iload_n gz_42_8 rfl ?_
              refine w_bipush gz_42_9 (by decide) ?_
              refine w_aload_n gz_42_11 rfl ?_
              refine v_getI (j := 7) gz_42_12 rfl is_82 rd_5 rfl (fun v709 ev709 pv709 qv709 => ?_)
              refine w_imul gz_42_15 ⟨by omega, by omega⟩ ?_
              refine w_iadd gz_42_16 ⟨by omega, by omega⟩ ?_
              refine v_putI (j := 9) gz_42_17 rfl is_82 rd_5 rfl (by omega) (by omega) rfl (fun h710 fh710 => ?_)
              have gh710 : my_fr [(4, 4), (4, 5), (4, 6), (4, 7), (4, 8), (4, 9), (5, 5), (5, 6), (5, 7), (5, 8), (5, 9), (32, -1), (33, -1), (34, -1), (35, -1), (36, -1), (37, -1), (38, -1), (39, -1)] h h710 := my_fr.up my_fr.rf is_82 fh710 rfl
              have Ln_h710 : Ln h710 := Ln_ag (my_ag.up fh710 is_82 rfl) n_Ln
              have Sp_h710 : Sp h710 wv := Sp_ag (my_ag.up fh710 is_82 rfl) hwv n_Ln n_Sp
              have Al_h710 : Al h710 := Al_ag (my_ag.up fh710 is_82 rfl) n_Al
              have Cu_h710 : Cu h710 := Cu_ag (my_ag.up fh710 is_82 rfl) n_Cu
              have Lo_h710 : Lo h h710 := Lo_ag (my_ag.up fh710 is_82 rfl) n_Ln (Lo_rf)
              refine w_vret gz_42_20 gm_42 ?_
              show wp l rho (d + 7) 49 86 [(2, 82), (0, 0), (0, 1), (0, 1), (0, 0), (0, 0)] [] h710 Q
              have psR : h710 82 7 = h 82 7 := ((my_up_fld fh710 (by decide)).trans (rfl : h 82 7 = h 82 7))
              have npsR : cs h710 = cs h := cs_eq (fun j => my_fr.at gh710 is_92 rfl) (my_fr.at gh710 is_82 rfl)
              have c711 := (my_up_self fh710)
              exact w_vret gz_49_86 gm_49 (k0 h710 (gh710) (by omega) (by omega) (by first | exact Lo_h710 | exact ⟨st.1, st.2.1, st.2.2.2.2⟩ | exact Or.inl ⟨by omega, zF, st.2.2.1, st.2.2.2.1⟩ | exact Or.inr (Or.inr (Or.inl ⟨by omega, by omega, zC, st.2.2.1, st.2.2.2.1⟩)) | exact Or.inr (Or.inr (Or.inr (Or.inl ⟨by omega, by omega, zW, st.2.2.2.1⟩))) | exact Or.inr (Or.inr (Or.inr (Or.inr (Or.inl ⟨by omega, by omega, zJ, fun _ => st.2.2.1, st.2.2.2.1⟩)))) | exact Or.inr (Or.inr (Or.inr (Or.inr (Or.inr (Or.inl ⟨by omega, by omega, zS, st.2.2.1, st.2.2.2.1⟩))))) | exact ⟨_, _, _, Or.inl ⟨by omega, zF, rfl, rfl⟩⟩ | exact ⟨_, _, _, Or.inr (Or.inr (Or.inl ⟨by omega, by omega, zC, rfl, rfl⟩))⟩ | exact ⟨_, _, _, Or.inr (Or.inr (Or.inr (Or.inl ⟨by omega, by omega, zW, rfl⟩)))⟩ | exact ⟨_, _, _, Or.inr (Or.inr (Or.inr (Or.inr (Or.inl ⟨by omega, by omega, zJ, fun q => absurd q (by omega), rfl⟩))))⟩ | exact ⟨_, _, _, Or.inr (Or.inr (Or.inr (Or.inr (Or.inr (Or.inl ⟨by omega, by omega, zS, rfl, rfl⟩)))))⟩ | exact ⟨0, 0, 0, Or.inr (Or.inl ⟨by omega, by omega, by omega⟩)⟩ | exact ⟨0, 0, 0, Or.inr (Or.inr (Or.inr (Or.inr (Or.inr (Or.inr ⟨by omega, by omega, by omega, by omega, by omega, by omega⟩)))))⟩ | (exfalso; omega) | omega) (by first | exact Lo_h710 | exact ⟨st.1, st.2.1, st.2.2.2.2⟩ | exact Or.inl ⟨by omega, zF, st.2.2.1, st.2.2.2.1⟩ | exact Or.inr (Or.inr (Or.inl ⟨by omega, by omega, zC, st.2.2.1, st.2.2.2.1⟩)) | exact Or.inr (Or.inr (Or.inr (Or.inl ⟨by omega, by omega, zW, st.2.2.2.1⟩))) | exact Or.inr (Or.inr (Or.inr (Or.inr (Or.inl ⟨by omega, by omega, zJ, fun _ => st.2.2.1, st.2.2.2.1⟩)))) | exact Or.inr (Or.inr (Or.inr (Or.inr (Or.inr (Or.inl ⟨by omega, by omega, zS, st.2.2.1, st.2.2.2.1⟩))))) | exact ⟨_, _, _, Or.inl ⟨by omega, zF, rfl, rfl⟩⟩ | exact ⟨_, _, _, Or.inr (Or.inr (Or.inl ⟨by omega, by omega, zC, rfl, rfl⟩))⟩ | exact ⟨_, _, _, Or.inr (Or.inr (Or.inr (Or.inl ⟨by omega, by omega, zW, rfl⟩)))⟩ | exact ⟨_, _, _, Or.inr (Or.inr (Or.inr (Or.inr (Or.inl ⟨by omega, by omega, zJ, fun q => absurd q (by omega), rfl⟩))))⟩ | exact ⟨_, _, _, Or.inr (Or.inr (Or.inr (Or.inr (Or.inr (Or.inl ⟨by omega, by omega, zS, rfl, rfl⟩)))))⟩ | exact ⟨0, 0, 0, Or.inr (Or.inl ⟨by omega, by omega, by omega⟩)⟩ | exact ⟨0, 0, 0, Or.inr (Or.inr (Or.inr (Or.inr (Or.inr (Or.inr ⟨by omega, by omega, by omega, by omega, by omega, by omega⟩)))))⟩ | (exfalso; omega) | omega) Ln_h710 Sp_h710 Al_h710 Cu_h710)
          ·
            show wp l rho (d + 7) 49 35 [(2, 82), (0, 0), (0, 1), (0, 1), (0, 0), (9, 0)] [(0, 1)] h Q
            rw [show wc ((8 : Nat) : Int) = 26801 from by decide] at xp663
            refine w_istore (ls' := [(2, 82), (0, 0), (0, 1), (0, 1), (0, 0), (0, 1)]) gz_49_35 gm_49 rfl rfl rfl ?_
            refine w_iload_n gz_49_37 rfl ?_
            refine w_ifne (t := 65) gz_49_38 rfl (fun u712 => by exfalso; omega) (fun u712 => ?_)
            refine w_iload_n gz_49_41 rfl ?_
            refine w_ifne (t := 65) gz_49_42 rfl (fun u713 => ?_) (fun u713 => by exfalso; omega)
            refine w_iload_n gz_49_65 rfl ?_
            refine w_ifne (t := 87) gz_49_66 rfl (fun u714 => by exfalso; omega) (fun u714 => ?_)
            refine w_aload_n gz_49_69 rfl ?_
            refine v_getR (j := 2) gz_49_70 rfl is_82 rd_5 rfl (fun v715 ev715 tv715 => ?_)
            have sE73 : v715 = h 82 2 := by first | assumption | omega
            refine v_getI (j := 9) gz_49_73 rfl tv715 rd_4 rfl (fun v716 ev716 pv716 qv716 => ?_)
            have c76 : v716 = h (h 82 2) 9 := by rw [← sE73]; omega
            refine w_bipush gz_49_76 (by decide) ?_
            refine w_iclt (t := 87) gz_49_78 rfl (fun u717 => ?_) (fun u717 => ?_)
            ·
              have St5_ht718 : St5 h := ⟨by subst_vars; omega, by subst_vars; omega⟩
              refine w_aload_n gz_49_87 rfl ?_
              refine w_inv (k := 2) (as := []) (r := []) (x := 82) (ls0 := [(2, 82), (9, 0), (9, 0)]) gz_49_88 gm_37 rfl is_82 rd_5 rfl rfl rfl rfl rfl (c_Reader_nextToken9_f0 (d := (d + 5))  (cf.trans (by omega)) n_Al (fun h719 frh719 w720 w721 w722 xp723 xp724 Al_h719t725 Cu_h719t726 => ?_))
              have gh719 : my_fr [(4, 4), (4, 5), (4, 6), (4, 7), (4, 8), (4, 9), (5, 5), (5, 6), (5, 7), (5, 8), (5, 9), (32, -1), (33, -1), (34, -1), (35, -1), (36, -1), (37, -1), (38, -1), (39, -1)] h h719 := my_fr.tr my_fr.rf (frh719.mo rfl)
              have Ln_h719 : Ln h719 := Ln_ag (my_ag.fr frh719 rfl) n_Ln
              have Sp_h719 : Sp h719 wv := Sp_ag (my_ag.fr frh719 rfl) hwv n_Ln n_Sp
              have Lo_h719 : Lo h h719 := Lo_ag (my_ag.fr frh719 rfl) n_Ln (Lo_rf)
              have St5_h719 : St5 h719 := St5_ag (my_ag.fr frh719 rfl) n_Ln St5_ht718
              show wp l rho (d + 7) 49 91 [(2, 82), (0, 0), (0, 1), (0, 1), (0, 0), (0, 1)] [] h719 Q
              have xc727 := xp723 n_Cu
              have ck728 := Cu_s Cu_h719t726
              rw [show cs h719 = cs h from cs_eq (fun j => my_fr.at gh719 is_92 rfl) (my_fr.at gh719 is_82 rfl)] at ck728
              rw [show h719 82 7 = (sN (cs h) (h 82 7)) from xc727] at ck728
              refine w_iload_n gz_49_91 rfl ?_
              refine w_ifeq (t := 102) gz_49_92 rfl (fun u729 => ?_) (fun u729 => by exfalso; omega)
              refine w_iload_n gz_49_102 rfl ?_
              refine w_ifeq (t := 113) gz_49_103 rfl (fun u730 => by exfalso; omega) (fun u730 => ?_)
              refine w_aload_n gz_49_106 rfl ?_
              refine w_inv (k := 3) (as := []) (r := []) (x := 82) (ls0 := [(2, 82), (9, 0), (9, 0), (9, 0)]) gz_49_107 gm_52 rfl is_82 rd_5 rfl rfl rfl rfl rfl (c_Reader_readCut9_f0 (d := (d + 1))  (wv := wv) (((my_fr.at frh719 is_82 rfl).trans cf).trans (by omega)) (by first | assumption | omega) (by first | assumption | omega) Ln_h719 Sp_h719 St5_h719 Al_h719t725 Cu_h719t726 (fun h731 frh731 w732 w733 xp734 Ln_h731t735 Sp_h731t736 Al_h731t737 Cu_h731t738 => ?_) (fun h739 frh739 w740 xp741 xp742 Ln_h739t743 Sp_h739t744 Al_h739t745 Cu_h739t746 => ?_))
              ·
                have gh731 : my_fr [(4, 4), (4, 5), (4, 6), (4, 7), (4, 8), (4, 9), (5, 5), (5, 6), (5, 7), (5, 8), (5, 9), (32, -1), (33, -1), (34, -1), (35, -1), (36, -1), (37, -1), (38, -1), (39, -1)] h h731 := my_fr.tr gh719 (frh731.mo rfl)
                have Lo_h731 : Lo h h731 := Lo_ag (my_ag.fr frh731 rfl) Ln_h719 Lo_h719
                show wp l rho (d + 7) 49 110 [(2, 82), (0, 0), (0, 1), (0, 1), (0, 0), (0, 1)] [] h731 Q
                have tE747 : cs h719 = cs h := cs_eq (fun j => my_fr.at gh719 is_92 rfl) (my_fr.at gh719 is_82 rfl)
                rw [tE747] at xp734
                have ps748 : h719 82 7 = (sN (cs h) (h 82 7)) := xc727
                rw [ps748] at xp734
                have ck749 := Cu_s Cu_h731t738
                rw [show cs h731 = cs h from cs_eq (fun j => my_fr.at gh731 is_92 rfl) (my_fr.at gh731 is_82 rfl)] at ck749
                have q2 : h719 82 2 = h 82 2 := my_fr.at frh719 is_82 rfl
                have q11 : h719 (h 82 2) 1 = h (h 82 2) 1 := my_fr.at frh719 n_Ln.2.2.2.1 rfl
                have q13 : h719 (h 82 2) 3 = h (h 82 2) 3 := my_fr.at frh719 n_Ln.2.2.2.1 rfl
                have q14 : h719 (h 82 2) 4 = h (h 82 2) 4 := my_fr.at frh719 n_Ln.2.2.2.1 rfl
                have q19 : h719 (h 82 2) 9 = h (h 82 2) 9 := my_fr.at frh719 n_Ln.2.2.2.1 rfl
                have qc : h719 2 = h 2 := funext (fun j => my_fr.at frh719 is_2 rfl)
                have zC := xp734
                simp only [q2, q11, q13, q14, q19, qc] at zC
                refine w_goto (t := 140) gz_49_110 rfl ?_
                have psR : h731 82 7 = h731 82 7 := (rfl : h731 82 7 = h731 82 7)
                have npsR : cs h731 = cs h := cs_eq (fun j => my_fr.at gh731 is_92 rfl) (my_fr.at gh731 is_82 rfl)
                have c750 := (rfl : h731 82 9 = h731 82 9)
                exact w_vret gz_49_140 gm_49 (k0 h731 (gh731) (by omega) (by omega) (by first | exact Lo_h731 | exact ⟨st.1, st.2.1, st.2.2.2.2⟩ | exact Or.inl ⟨by omega, zF, st.2.2.1, st.2.2.2.1⟩ | exact Or.inr (Or.inr (Or.inl ⟨by omega, by omega, zC, st.2.2.1, st.2.2.2.1⟩)) | exact Or.inr (Or.inr (Or.inr (Or.inl ⟨by omega, by omega, zW, st.2.2.2.1⟩))) | exact Or.inr (Or.inr (Or.inr (Or.inr (Or.inl ⟨by omega, by omega, zJ, fun _ => st.2.2.1, st.2.2.2.1⟩)))) | exact Or.inr (Or.inr (Or.inr (Or.inr (Or.inr (Or.inl ⟨by omega, by omega, zS, st.2.2.1, st.2.2.2.1⟩))))) | exact ⟨_, _, _, Or.inl ⟨by omega, zF, rfl, rfl⟩⟩ | exact ⟨_, _, _, Or.inr (Or.inr (Or.inl ⟨by omega, by omega, zC, rfl, rfl⟩))⟩ | exact ⟨_, _, _, Or.inr (Or.inr (Or.inr (Or.inl ⟨by omega, by omega, zW, rfl⟩)))⟩ | exact ⟨_, _, _, Or.inr (Or.inr (Or.inr (Or.inr (Or.inl ⟨by omega, by omega, zJ, fun q => absurd q (by omega), rfl⟩))))⟩ | exact ⟨_, _, _, Or.inr (Or.inr (Or.inr (Or.inr (Or.inr (Or.inl ⟨by omega, by omega, zS, rfl, rfl⟩)))))⟩ | exact ⟨0, 0, 0, Or.inr (Or.inl ⟨by omega, by omega, by omega⟩)⟩ | exact ⟨0, 0, 0, Or.inr (Or.inr (Or.inr (Or.inr (Or.inr (Or.inr ⟨by omega, by omega, by omega, by omega, by omega, by omega⟩)))))⟩ | (exfalso; omega) | omega) (by first | exact Lo_h731 | exact ⟨st.1, st.2.1, st.2.2.2.2⟩ | exact Or.inl ⟨by omega, zF, st.2.2.1, st.2.2.2.1⟩ | exact Or.inr (Or.inr (Or.inl ⟨by omega, by omega, zC, st.2.2.1, st.2.2.2.1⟩)) | exact Or.inr (Or.inr (Or.inr (Or.inl ⟨by omega, by omega, zW, st.2.2.2.1⟩))) | exact Or.inr (Or.inr (Or.inr (Or.inr (Or.inl ⟨by omega, by omega, zJ, fun _ => st.2.2.1, st.2.2.2.1⟩)))) | exact Or.inr (Or.inr (Or.inr (Or.inr (Or.inr (Or.inl ⟨by omega, by omega, zS, st.2.2.1, st.2.2.2.1⟩))))) | exact ⟨_, _, _, Or.inl ⟨by omega, zF, rfl, rfl⟩⟩ | exact ⟨_, _, _, Or.inr (Or.inr (Or.inl ⟨by omega, by omega, zC, rfl, rfl⟩))⟩ | exact ⟨_, _, _, Or.inr (Or.inr (Or.inr (Or.inl ⟨by omega, by omega, zW, rfl⟩)))⟩ | exact ⟨_, _, _, Or.inr (Or.inr (Or.inr (Or.inr (Or.inl ⟨by omega, by omega, zJ, fun q => absurd q (by omega), rfl⟩))))⟩ | exact ⟨_, _, _, Or.inr (Or.inr (Or.inr (Or.inr (Or.inr (Or.inl ⟨by omega, by omega, zS, rfl, rfl⟩)))))⟩ | exact ⟨0, 0, 0, Or.inr (Or.inl ⟨by omega, by omega, by omega⟩)⟩ | exact ⟨0, 0, 0, Or.inr (Or.inr (Or.inr (Or.inr (Or.inr (Or.inr ⟨by omega, by omega, by omega, by omega, by omega, by omega⟩)))))⟩ | (exfalso; omega) | omega) Ln_h731t735 Sp_h731t736 Al_h731t737 Cu_h731t738)
              ·
                have gh739 : my_fr [(4, 4), (4, 5), (4, 6), (4, 7), (4, 8), (4, 9), (5, 5), (5, 6), (5, 7), (5, 8), (5, 9), (32, -1), (33, -1), (34, -1), (35, -1), (36, -1), (37, -1), (38, -1), (39, -1)] h h739 := my_fr.tr gh719 (frh739.mo rfl)
                have Lo_h739 : Lo h h739 := Lo_ag (my_ag.fr frh739 rfl) Ln_h719 Lo_h719
                show wp l rho (d + 7) 49 110 [(2, 82), (0, 0), (0, 1), (0, 1), (0, 0), (0, 1)] [] h739 Q
                have tE751 : cs h719 = cs h := cs_eq (fun j => my_fr.at gh719 is_92 rfl) (my_fr.at gh719 is_82 rfl)
                rw [tE751] at xp741
                have ps752 : h719 82 7 = (sN (cs h) (h 82 7)) := xc727
                rw [ps752] at xp741
                have ck753 := Cu_s Cu_h739t746
                rw [show cs h739 = cs h from cs_eq (fun j => my_fr.at gh739 is_92 rfl) (my_fr.at gh739 is_82 rfl)] at ck753
                have q2 : h719 82 2 = h 82 2 := my_fr.at frh719 is_82 rfl
                have q11 : h719 (h 82 2) 1 = h (h 82 2) 1 := my_fr.at frh719 n_Ln.2.2.2.1 rfl
                have q13 : h719 (h 82 2) 3 = h (h 82 2) 3 := my_fr.at frh719 n_Ln.2.2.2.1 rfl
                have q14 : h719 (h 82 2) 4 = h (h 82 2) 4 := my_fr.at frh719 n_Ln.2.2.2.1 rfl
                have q19 : h719 (h 82 2) 9 = h (h 82 2) 9 := my_fr.at frh719 n_Ln.2.2.2.1 rfl
                have qc : h719 2 = h 2 := funext (fun j => my_fr.at frh719 is_2 rfl)
                have zC := xp741
                simp only [q2, q11, q13, q14, q19, qc] at zC
                have st := xp742
                unfold Std at st
                simp only [q2, q11, q13, q14, q19, qc] at st
                refine w_goto (t := 140) gz_49_110 rfl ?_
                have psR : h739 82 7 = h739 82 7 := (rfl : h739 82 7 = h739 82 7)
                have npsR : cs h739 = cs h := cs_eq (fun j => my_fr.at gh739 is_92 rfl) (my_fr.at gh739 is_82 rfl)
                have c754 := w740
                exact w_vret gz_49_140 gm_49 (k1 h739 (gh739) (by omega) (by first | exact Lo_h739 | exact ⟨st.1, st.2.1, st.2.2.2.2⟩ | exact Or.inl ⟨by omega, zF, st.2.2.1, st.2.2.2.1⟩ | exact Or.inr (Or.inr (Or.inl ⟨by omega, by omega, zC, st.2.2.1, st.2.2.2.1⟩)) | exact Or.inr (Or.inr (Or.inr (Or.inl ⟨by omega, by omega, zW, st.2.2.2.1⟩))) | exact Or.inr (Or.inr (Or.inr (Or.inr (Or.inl ⟨by omega, by omega, zJ, fun _ => st.2.2.1, st.2.2.2.1⟩)))) | exact Or.inr (Or.inr (Or.inr (Or.inr (Or.inr (Or.inl ⟨by omega, by omega, zS, st.2.2.1, st.2.2.2.1⟩))))) | exact ⟨_, _, _, Or.inl ⟨by omega, zF, rfl, rfl⟩⟩ | exact ⟨_, _, _, Or.inr (Or.inr (Or.inl ⟨by omega, by omega, zC, rfl, rfl⟩))⟩ | exact ⟨_, _, _, Or.inr (Or.inr (Or.inr (Or.inl ⟨by omega, by omega, zW, rfl⟩)))⟩ | exact ⟨_, _, _, Or.inr (Or.inr (Or.inr (Or.inr (Or.inl ⟨by omega, by omega, zJ, fun q => absurd q (by omega), rfl⟩))))⟩ | exact ⟨_, _, _, Or.inr (Or.inr (Or.inr (Or.inr (Or.inr (Or.inl ⟨by omega, by omega, zS, rfl, rfl⟩)))))⟩ | exact ⟨0, 0, 0, Or.inr (Or.inl ⟨by omega, by omega, by omega⟩)⟩ | exact ⟨0, 0, 0, Or.inr (Or.inr (Or.inr (Or.inr (Or.inr (Or.inr ⟨by omega, by omega, by omega, by omega, by omega, by omega⟩)))))⟩ | (exfalso; omega) | omega) (by first | exact Lo_h739 | exact ⟨st.1, st.2.1, st.2.2.2.2⟩ | exact Or.inl ⟨by omega, zF, st.2.2.1, st.2.2.2.1⟩ | exact Or.inr (Or.inr (Or.inl ⟨by omega, by omega, zC, st.2.2.1, st.2.2.2.1⟩)) | exact Or.inr (Or.inr (Or.inr (Or.inl ⟨by omega, by omega, zW, st.2.2.2.1⟩))) | exact Or.inr (Or.inr (Or.inr (Or.inr (Or.inl ⟨by omega, by omega, zJ, fun _ => st.2.2.1, st.2.2.2.1⟩)))) | exact Or.inr (Or.inr (Or.inr (Or.inr (Or.inr (Or.inl ⟨by omega, by omega, zS, st.2.2.1, st.2.2.2.1⟩))))) | exact ⟨_, _, _, Or.inl ⟨by omega, zF, rfl, rfl⟩⟩ | exact ⟨_, _, _, Or.inr (Or.inr (Or.inl ⟨by omega, by omega, zC, rfl, rfl⟩))⟩ | exact ⟨_, _, _, Or.inr (Or.inr (Or.inr (Or.inl ⟨by omega, by omega, zW, rfl⟩)))⟩ | exact ⟨_, _, _, Or.inr (Or.inr (Or.inr (Or.inr (Or.inl ⟨by omega, by omega, zJ, fun q => absurd q (by omega), rfl⟩))))⟩ | exact ⟨_, _, _, Or.inr (Or.inr (Or.inr (Or.inr (Or.inr (Or.inl ⟨by omega, by omega, zS, rfl, rfl⟩)))))⟩ | exact ⟨0, 0, 0, Or.inr (Or.inl ⟨by omega, by omega, by omega⟩)⟩ | exact ⟨0, 0, 0, Or.inr (Or.inr (Or.inr (Or.inr (Or.inr (Or.inr ⟨by omega, by omega, by omega, by omega, by omega, by omega⟩)))))⟩ | (exfalso; omega) | omega) (by first | exact Lo_h739 | exact ⟨st.1, st.2.1, st.2.2.2.2⟩ | exact Or.inl ⟨by omega, zF, st.2.2.1, st.2.2.2.1⟩ | exact Or.inr (Or.inr (Or.inl ⟨by omega, by omega, zC, st.2.2.1, st.2.2.2.1⟩)) | exact Or.inr (Or.inr (Or.inr (Or.inl ⟨by omega, by omega, zW, st.2.2.2.1⟩))) | exact Or.inr (Or.inr (Or.inr (Or.inr (Or.inl ⟨by omega, by omega, zJ, fun _ => st.2.2.1, st.2.2.2.1⟩)))) | exact Or.inr (Or.inr (Or.inr (Or.inr (Or.inr (Or.inl ⟨by omega, by omega, zS, st.2.2.1, st.2.2.2.1⟩))))) | exact ⟨_, _, _, Or.inl ⟨by omega, zF, rfl, rfl⟩⟩ | exact ⟨_, _, _, Or.inr (Or.inr (Or.inl ⟨by omega, by omega, zC, rfl, rfl⟩))⟩ | exact ⟨_, _, _, Or.inr (Or.inr (Or.inr (Or.inl ⟨by omega, by omega, zW, rfl⟩)))⟩ | exact ⟨_, _, _, Or.inr (Or.inr (Or.inr (Or.inr (Or.inl ⟨by omega, by omega, zJ, fun q => absurd q (by omega), rfl⟩))))⟩ | exact ⟨_, _, _, Or.inr (Or.inr (Or.inr (Or.inr (Or.inr (Or.inl ⟨by omega, by omega, zS, rfl, rfl⟩)))))⟩ | exact ⟨0, 0, 0, Or.inr (Or.inl ⟨by omega, by omega, by omega⟩)⟩ | exact ⟨0, 0, 0, Or.inr (Or.inr (Or.inr (Or.inr (Or.inr (Or.inr ⟨by omega, by omega, by omega, by omega, by omega, by omega⟩)))))⟩ | (exfalso; omega) | omega) Ln_h739t743 Sp_h739t744 Al_h739t745 Cu_h739t746)
            ·
              refine w_aload_n gz_49_81 rfl ?_
              refine w_iconst gz_49_82 (by decide) ?_
              refine w_inv (k := 0) (as := [(0, 5)]) (r := []) (x := 82) (ls0 := [(2, 82), (0, 5)]) gz_49_83 gm_42 rfl is_82 rd_5 rfl rfl rfl rfl rfl ?_
              refine w_aload_n gz_42_0 rfl ?_
              refine v_getI (j := 9) gz_42_1 rfl is_82 rd_5 rfl (fun v755 ev755 pv755 qv755 => ?_)
              have zv755 := ev755.trans cf
              refine w_ifne (t := 20) gz_42_4 rfl (fun u756 => by exfalso; omega) (fun u756 => ?_)
              refine w_aload_n gz_42_7 rfl ?_
              refine w_iload_n gz_42_8 rfl ?_
              refine w_bipush gz_42_9 (by decide) ?_
              refine w_aload_n gz_42_11 rfl ?_
              refine v_getI (j := 7) gz_42_12 rfl is_82 rd_5 rfl (fun v757 ev757 pv757 qv757 => ?_)
              refine w_imul gz_42_15 ⟨by omega, by omega⟩ ?_
              refine w_iadd gz_42_16 ⟨by omega, by omega⟩ ?_
              refine v_putI (j := 9) gz_42_17 rfl is_82 rd_5 rfl (by omega) (by omega) rfl (fun h758 fh758 => ?_)
              have gh758 : my_fr [(4, 4), (4, 5), (4, 6), (4, 7), (4, 8), (4, 9), (5, 5), (5, 6), (5, 7), (5, 8), (5, 9), (32, -1), (33, -1), (34, -1), (35, -1), (36, -1), (37, -1), (38, -1), (39, -1)] h h758 := my_fr.up my_fr.rf is_82 fh758 rfl
              have Ln_h758 : Ln h758 := Ln_ag (my_ag.up fh758 is_82 rfl) n_Ln
              have Sp_h758 : Sp h758 wv := Sp_ag (my_ag.up fh758 is_82 rfl) hwv n_Ln n_Sp
              have Al_h758 : Al h758 := Al_ag (my_ag.up fh758 is_82 rfl) n_Al
              have Cu_h758 : Cu h758 := Cu_ag (my_ag.up fh758 is_82 rfl) n_Cu
              have Lo_h758 : Lo h h758 := Lo_ag (my_ag.up fh758 is_82 rfl) n_Ln (Lo_rf)
              refine w_vret gz_42_20 gm_42 ?_
              show wp l rho (d + 7) 49 86 [(2, 82), (0, 0), (0, 1), (0, 1), (0, 0), (0, 1)] [] h758 Q
              have psR : h758 82 7 = h 82 7 := ((my_up_fld fh758 (by decide)).trans (rfl : h 82 7 = h 82 7))
              have npsR : cs h758 = cs h := cs_eq (fun j => my_fr.at gh758 is_92 rfl) (my_fr.at gh758 is_82 rfl)
              have c759 := (my_up_self fh758)
              exact w_vret gz_49_86 gm_49 (k0 h758 (gh758) (by omega) (by omega) (by first | exact Lo_h758 | exact ⟨st.1, st.2.1, st.2.2.2.2⟩ | exact Or.inl ⟨by omega, zF, st.2.2.1, st.2.2.2.1⟩ | exact Or.inr (Or.inr (Or.inl ⟨by omega, by omega, zC, st.2.2.1, st.2.2.2.1⟩)) | exact Or.inr (Or.inr (Or.inr (Or.inl ⟨by omega, by omega, zW, st.2.2.2.1⟩))) | exact Or.inr (Or.inr (Or.inr (Or.inr (Or.inl ⟨by omega, by omega, zJ, fun _ => st.2.2.1, st.2.2.2.1⟩)))) | exact Or.inr (Or.inr (Or.inr (Or.inr (Or.inr (Or.inl ⟨by omega, by omega, zS, st.2.2.1, st.2.2.2.1⟩))))) | exact ⟨_, _, _, Or.inl ⟨by omega, zF, rfl, rfl⟩⟩ | exact ⟨_, _, _, Or.inr (Or.inr (Or.inl ⟨by omega, by omega, zC, rfl, rfl⟩))⟩ | exact ⟨_, _, _, Or.inr (Or.inr (Or.inr (Or.inl ⟨by omega, by omega, zW, rfl⟩)))⟩ | exact ⟨_, _, _, Or.inr (Or.inr (Or.inr (Or.inr (Or.inl ⟨by omega, by omega, zJ, fun q => absurd q (by omega), rfl⟩))))⟩ | exact ⟨_, _, _, Or.inr (Or.inr (Or.inr (Or.inr (Or.inr (Or.inl ⟨by omega, by omega, zS, rfl, rfl⟩)))))⟩ | exact ⟨0, 0, 0, Or.inr (Or.inl ⟨by omega, by omega, by omega⟩)⟩ | exact ⟨0, 0, 0, Or.inr (Or.inr (Or.inr (Or.inr (Or.inr (Or.inr ⟨by omega, by omega, by omega, by omega, by omega, by omega⟩)))))⟩ | (exfalso; omega) | omega) (by first | exact Lo_h758 | exact ⟨st.1, st.2.1, st.2.2.2.2⟩ | exact Or.inl ⟨by omega, zF, st.2.2.1, st.2.2.2.1⟩ | exact Or.inr (Or.inr (Or.inl ⟨by omega, by omega, zC, st.2.2.1, st.2.2.2.1⟩)) | exact Or.inr (Or.inr (Or.inr (Or.inl ⟨by omega, by omega, zW, st.2.2.2.1⟩))) | exact Or.inr (Or.inr (Or.inr (Or.inr (Or.inl ⟨by omega, by omega, zJ, fun _ => st.2.2.1, st.2.2.2.1⟩)))) | exact Or.inr (Or.inr (Or.inr (Or.inr (Or.inr (Or.inl ⟨by omega, by omega, zS, st.2.2.1, st.2.2.2.1⟩))))) | exact ⟨_, _, _, Or.inl ⟨by omega, zF, rfl, rfl⟩⟩ | exact ⟨_, _, _, Or.inr (Or.inr (Or.inl ⟨by omega, by omega, zC, rfl, rfl⟩))⟩ | exact ⟨_, _, _, Or.inr (Or.inr (Or.inr (Or.inl ⟨by omega, by omega, zW, rfl⟩)))⟩ | exact ⟨_, _, _, Or.inr (Or.inr (Or.inr (Or.inr (Or.inl ⟨by omega, by omega, zJ, fun q => absurd q (by omega), rfl⟩))))⟩ | exact ⟨_, _, _, Or.inr (Or.inr (Or.inr (Or.inr (Or.inr (Or.inl ⟨by omega, by omega, zS, rfl, rfl⟩)))))⟩ | exact ⟨0, 0, 0, Or.inr (Or.inl ⟨by omega, by omega, by omega⟩)⟩ | exact ⟨0, 0, 0, Or.inr (Or.inr (Or.inr (Or.inr (Or.inr (Or.inr ⟨by omega, by omega, by omega, by omega, by omega, by omega⟩)))))⟩ | (exfalso; omega) | omega) Ln_h758 Sp_h758 Al_h758 Cu_h758)
        ·
          show wp l rho (d + 7) 49 27 [(2, 82), (0, 0), (0, 1), (0, 1), (9, 0), (9, 0)] [(0, 1)] h Q
          rw [show wc ((7 : Nat) : Int) = 527412 from by decide] at xp658
          refine w_istore (ls' := [(2, 82), (0, 0), (0, 1), (0, 1), (0, 1), (9, 0)]) gz_49_27 gm_49 rfl rfl rfl ?_
          refine w_aload_n gz_49_29 rfl ?_
          refine w_ldcS gz_49_30 (by decide) ?_
          refine w_inv (k := 1) (as := [(3, ((8 : Nat) : Int))]) (r := []) (x := 82) (ls0 := [(2, 82), (3, ((8 : Nat) : Int)), (9, 0)]) gz_49_32 gm_41 rfl is_82 rd_5 rfl rfl rfl rfl rfl (c_Reader_isWord9_f0 (d := (d + 2)) (x1 := ((8 : Nat) : Int)) (by decide) (cf.trans (by omega)) n_Cu (fun w760 xp761 => ?_) (fun w762 w763 xp764 => ?_))
          ·
            show wp l rho (d + 7) 49 35 [(2, 82), (0, 0), (0, 1), (0, 1), (0, 1), (9, 0)] [(0, 0)] h Q
            rw [show wc ((8 : Nat) : Int) = 26801 from by decide] at xp761
            refine w_istore (ls' := [(2, 82), (0, 0), (0, 1), (0, 1), (0, 1), (0, 0)]) gz_49_35 gm_49 rfl rfl rfl ?_
            refine w_iload_n gz_49_37 rfl ?_
            refine w_ifne (t := 65) gz_49_38 rfl (fun u765 => by exfalso; omega) (fun u765 => ?_)
            refine w_iload_n gz_49_41 rfl ?_
            refine w_ifne (t := 65) gz_49_42 rfl (fun u766 => ?_) (fun u766 => by exfalso; omega)
            refine w_iload_n gz_49_65 rfl ?_
            refine w_ifne (t := 87) gz_49_66 rfl (fun u767 => by exfalso; omega) (fun u767 => ?_)
            refine w_aload_n gz_49_69 rfl ?_
            refine v_getR (j := 2) gz_49_70 rfl is_82 rd_5 rfl (fun v768 ev768 tv768 => ?_)
            have sE73 : v768 = h 82 2 := by first | assumption | omega
            refine v_getI (j := 9) gz_49_73 rfl tv768 rd_4 rfl (fun v769 ev769 pv769 qv769 => ?_)
            have c76 : v769 = h (h 82 2) 9 := by rw [← sE73]; omega
            refine w_bipush gz_49_76 (by decide) ?_
            refine w_iclt (t := 87) gz_49_78 rfl (fun u770 => ?_) (fun u770 => ?_)
            ·
              have St5_ht771 : St5 h := ⟨by subst_vars; omega, by subst_vars; omega⟩
              refine w_aload_n gz_49_87 rfl ?_
              refine w_inv (k := 2) (as := []) (r := []) (x := 82) (ls0 := [(2, 82), (9, 0), (9, 0)]) gz_49_88 gm_37 rfl is_82 rd_5 rfl rfl rfl rfl rfl (c_Reader_nextToken9_f0 (d := (d + 5))  (cf.trans (by omega)) n_Al (fun h772 frh772 w773 w774 w775 xp776 xp777 Al_h772t778 Cu_h772t779 => ?_))
              have gh772 : my_fr [(4, 4), (4, 5), (4, 6), (4, 7), (4, 8), (4, 9), (5, 5), (5, 6), (5, 7), (5, 8), (5, 9), (32, -1), (33, -1), (34, -1), (35, -1), (36, -1), (37, -1), (38, -1), (39, -1)] h h772 := my_fr.tr my_fr.rf (frh772.mo rfl)
              have Ln_h772 : Ln h772 := Ln_ag (my_ag.fr frh772 rfl) n_Ln
              have Sp_h772 : Sp h772 wv := Sp_ag (my_ag.fr frh772 rfl) hwv n_Ln n_Sp
              have Lo_h772 : Lo h h772 := Lo_ag (my_ag.fr frh772 rfl) n_Ln (Lo_rf)
              have St5_h772 : St5 h772 := St5_ag (my_ag.fr frh772 rfl) n_Ln St5_ht771
              show wp l rho (d + 7) 49 91 [(2, 82), (0, 0), (0, 1), (0, 1), (0, 1), (0, 0)] [] h772 Q
              have xc780 := xp776 n_Cu
              have ck781 := Cu_s Cu_h772t779
              rw [show cs h772 = cs h from cs_eq (fun j => my_fr.at gh772 is_92 rfl) (my_fr.at gh772 is_82 rfl)] at ck781
              rw [show h772 82 7 = (sN (cs h) (h 82 7)) from xc780] at ck781
              refine w_iload_n gz_49_91 rfl ?_
              refine w_ifeq (t := 102) gz_49_92 rfl (fun u782 => ?_) (fun u782 => by exfalso; omega)
              refine w_iload_n gz_49_102 rfl ?_
              refine w_ifeq (t := 113) gz_49_103 rfl (fun u783 => by exfalso; omega) (fun u783 => ?_)
              refine w_aload_n gz_49_106 rfl ?_
              refine w_inv (k := 3) (as := []) (r := []) (x := 82) (ls0 := [(2, 82), (9, 0), (9, 0), (9, 0)]) gz_49_107 gm_52 rfl is_82 rd_5 rfl rfl rfl rfl rfl (c_Reader_readCut9_f0 (d := (d + 1))  (wv := wv) (((my_fr.at frh772 is_82 rfl).trans cf).trans (by omega)) (by first | assumption | omega) (by first | assumption | omega) Ln_h772 Sp_h772 St5_h772 Al_h772t778 Cu_h772t779 (fun h784 frh784 w785 w786 xp787 Ln_h784t788 Sp_h784t789 Al_h784t790 Cu_h784t791 => ?_) (fun h792 frh792 w793 xp794 xp795 Ln_h792t796 Sp_h792t797 Al_h792t798 Cu_h792t799 => ?_))
              ·
                have gh784 : my_fr [(4, 4), (4, 5), (4, 6), (4, 7), (4, 8), (4, 9), (5, 5), (5, 6), (5, 7), (5, 8), (5, 9), (32, -1), (33, -1), (34, -1), (35, -1), (36, -1), (37, -1), (38, -1), (39, -1)] h h784 := my_fr.tr gh772 (frh784.mo rfl)
                have Lo_h784 : Lo h h784 := Lo_ag (my_ag.fr frh784 rfl) Ln_h772 Lo_h772
                show wp l rho (d + 7) 49 110 [(2, 82), (0, 0), (0, 1), (0, 1), (0, 1), (0, 0)] [] h784 Q
                have tE800 : cs h772 = cs h := cs_eq (fun j => my_fr.at gh772 is_92 rfl) (my_fr.at gh772 is_82 rfl)
                rw [tE800] at xp787
                have ps801 : h772 82 7 = (sN (cs h) (h 82 7)) := xc780
                rw [ps801] at xp787
                have ck802 := Cu_s Cu_h784t791
                rw [show cs h784 = cs h from cs_eq (fun j => my_fr.at gh784 is_92 rfl) (my_fr.at gh784 is_82 rfl)] at ck802
                have q2 : h772 82 2 = h 82 2 := my_fr.at frh772 is_82 rfl
                have q11 : h772 (h 82 2) 1 = h (h 82 2) 1 := my_fr.at frh772 n_Ln.2.2.2.1 rfl
                have q13 : h772 (h 82 2) 3 = h (h 82 2) 3 := my_fr.at frh772 n_Ln.2.2.2.1 rfl
                have q14 : h772 (h 82 2) 4 = h (h 82 2) 4 := my_fr.at frh772 n_Ln.2.2.2.1 rfl
                have q19 : h772 (h 82 2) 9 = h (h 82 2) 9 := my_fr.at frh772 n_Ln.2.2.2.1 rfl
                have qc : h772 2 = h 2 := funext (fun j => my_fr.at frh772 is_2 rfl)
                have zC := xp787
                simp only [q2, q11, q13, q14, q19, qc] at zC
                refine w_goto (t := 140) gz_49_110 rfl ?_
                have psR : h784 82 7 = h784 82 7 := (rfl : h784 82 7 = h784 82 7)
                have npsR : cs h784 = cs h := cs_eq (fun j => my_fr.at gh784 is_92 rfl) (my_fr.at gh784 is_82 rfl)
                have c803 := (rfl : h784 82 9 = h784 82 9)
                exact w_vret gz_49_140 gm_49 (k0 h784 (gh784) (by omega) (by omega) (by first | exact Lo_h784 | exact ⟨st.1, st.2.1, st.2.2.2.2⟩ | exact Or.inl ⟨by omega, zF, st.2.2.1, st.2.2.2.1⟩ | exact Or.inr (Or.inr (Or.inl ⟨by omega, by omega, zC, st.2.2.1, st.2.2.2.1⟩)) | exact Or.inr (Or.inr (Or.inr (Or.inl ⟨by omega, by omega, zW, st.2.2.2.1⟩))) | exact Or.inr (Or.inr (Or.inr (Or.inr (Or.inl ⟨by omega, by omega, zJ, fun _ => st.2.2.1, st.2.2.2.1⟩)))) | exact Or.inr (Or.inr (Or.inr (Or.inr (Or.inr (Or.inl ⟨by omega, by omega, zS, st.2.2.1, st.2.2.2.1⟩))))) | exact ⟨_, _, _, Or.inl ⟨by omega, zF, rfl, rfl⟩⟩ | exact ⟨_, _, _, Or.inr (Or.inr (Or.inl ⟨by omega, by omega, zC, rfl, rfl⟩))⟩ | exact ⟨_, _, _, Or.inr (Or.inr (Or.inr (Or.inl ⟨by omega, by omega, zW, rfl⟩)))⟩ | exact ⟨_, _, _, Or.inr (Or.inr (Or.inr (Or.inr (Or.inl ⟨by omega, by omega, zJ, fun q => absurd q (by omega), rfl⟩))))⟩ | exact ⟨_, _, _, Or.inr (Or.inr (Or.inr (Or.inr (Or.inr (Or.inl ⟨by omega, by omega, zS, rfl, rfl⟩)))))⟩ | exact ⟨0, 0, 0, Or.inr (Or.inl ⟨by omega, by omega, by omega⟩)⟩ | exact ⟨0, 0, 0, Or.inr (Or.inr (Or.inr (Or.inr (Or.inr (Or.inr ⟨by omega, by omega, by omega, by omega, by omega, by omega⟩)))))⟩ | (exfalso; omega) | omega) (by first | exact Lo_h784 | exact ⟨st.1, st.2.1, st.2.2.2.2⟩ | exact Or.inl ⟨by omega, zF, st.2.2.1, st.2.2.2.1⟩ | exact Or.inr (Or.inr (Or.inl ⟨by omega, by omega, zC, st.2.2.1, st.2.2.2.1⟩)) | exact Or.inr (Or.inr (Or.inr (Or.inl ⟨by omega, by omega, zW, st.2.2.2.1⟩))) | exact Or.inr (Or.inr (Or.inr (Or.inr (Or.inl ⟨by omega, by omega, zJ, fun _ => st.2.2.1, st.2.2.2.1⟩)))) | exact Or.inr (Or.inr (Or.inr (Or.inr (Or.inr (Or.inl ⟨by omega, by omega, zS, st.2.2.1, st.2.2.2.1⟩))))) | exact ⟨_, _, _, Or.inl ⟨by omega, zF, rfl, rfl⟩⟩ | exact ⟨_, _, _, Or.inr (Or.inr (Or.inl ⟨by omega, by omega, zC, rfl, rfl⟩))⟩ | exact ⟨_, _, _, Or.inr (Or.inr (Or.inr (Or.inl ⟨by omega, by omega, zW, rfl⟩)))⟩ | exact ⟨_, _, _, Or.inr (Or.inr (Or.inr (Or.inr (Or.inl ⟨by omega, by omega, zJ, fun q => absurd q (by omega), rfl⟩))))⟩ | exact ⟨_, _, _, Or.inr (Or.inr (Or.inr (Or.inr (Or.inr (Or.inl ⟨by omega, by omega, zS, rfl, rfl⟩)))))⟩ | exact ⟨0, 0, 0, Or.inr (Or.inl ⟨by omega, by omega, by omega⟩)⟩ | exact ⟨0, 0, 0, Or.inr (Or.inr (Or.inr (Or.inr (Or.inr (Or.inr ⟨by omega, by omega, by omega, by omega, by omega, by omega⟩)))))⟩ | (exfalso; omega) | omega) Ln_h784t788 Sp_h784t789 Al_h784t790 Cu_h784t791)
              ·
                have gh792 : my_fr [(4, 4), (4, 5), (4, 6), (4, 7), (4, 8), (4, 9), (5, 5), (5, 6), (5, 7), (5, 8), (5, 9), (32, -1), (33, -1), (34, -1), (35, -1), (36, -1), (37, -1), (38, -1), (39, -1)] h h792 := my_fr.tr gh772 (frh792.mo rfl)
                have Lo_h792 : Lo h h792 := Lo_ag (my_ag.fr frh792 rfl) Ln_h772 Lo_h772
                show wp l rho (d + 7) 49 110 [(2, 82), (0, 0), (0, 1), (0, 1), (0, 1), (0, 0)] [] h792 Q
                have tE804 : cs h772 = cs h := cs_eq (fun j => my_fr.at gh772 is_92 rfl) (my_fr.at gh772 is_82 rfl)
                rw [tE804] at xp794
                have ps805 : h772 82 7 = (sN (cs h) (h 82 7)) := xc780
                rw [ps805] at xp794
                have ck806 := Cu_s Cu_h792t799
                rw [show cs h792 = cs h from cs_eq (fun j => my_fr.at gh792 is_92 rfl) (my_fr.at gh792 is_82 rfl)] at ck806
                have q2 : h772 82 2 = h 82 2 := my_fr.at frh772 is_82 rfl
                have q11 : h772 (h 82 2) 1 = h (h 82 2) 1 := my_fr.at frh772 n_Ln.2.2.2.1 rfl
                have q13 : h772 (h 82 2) 3 = h (h 82 2) 3 := my_fr.at frh772 n_Ln.2.2.2.1 rfl
                have q14 : h772 (h 82 2) 4 = h (h 82 2) 4 := my_fr.at frh772 n_Ln.2.2.2.1 rfl
                have q19 : h772 (h 82 2) 9 = h (h 82 2) 9 := my_fr.at frh772 n_Ln.2.2.2.1 rfl
                have qc : h772 2 = h 2 := funext (fun j => my_fr.at frh772 is_2 rfl)
                have zC := xp794
                simp only [q2, q11, q13, q14, q19, qc] at zC
                have st := xp795
                unfold Std at st
                simp only [q2, q11, q13, q14, q19, qc] at st
                refine w_goto (t := 140) gz_49_110 rfl ?_
                have psR : h792 82 7 = h792 82 7 := (rfl : h792 82 7 = h792 82 7)
                have npsR : cs h792 = cs h := cs_eq (fun j => my_fr.at gh792 is_92 rfl) (my_fr.at gh792 is_82 rfl)
                have c807 := w793
                exact w_vret gz_49_140 gm_49 (k1 h792 (gh792) (by omega) (by first | exact Lo_h792 | exact ⟨st.1, st.2.1, st.2.2.2.2⟩ | exact Or.inl ⟨by omega, zF, st.2.2.1, st.2.2.2.1⟩ | exact Or.inr (Or.inr (Or.inl ⟨by omega, by omega, zC, st.2.2.1, st.2.2.2.1⟩)) | exact Or.inr (Or.inr (Or.inr (Or.inl ⟨by omega, by omega, zW, st.2.2.2.1⟩))) | exact Or.inr (Or.inr (Or.inr (Or.inr (Or.inl ⟨by omega, by omega, zJ, fun _ => st.2.2.1, st.2.2.2.1⟩)))) | exact Or.inr (Or.inr (Or.inr (Or.inr (Or.inr (Or.inl ⟨by omega, by omega, zS, st.2.2.1, st.2.2.2.1⟩))))) | exact ⟨_, _, _, Or.inl ⟨by omega, zF, rfl, rfl⟩⟩ | exact ⟨_, _, _, Or.inr (Or.inr (Or.inl ⟨by omega, by omega, zC, rfl, rfl⟩))⟩ | exact ⟨_, _, _, Or.inr (Or.inr (Or.inr (Or.inl ⟨by omega, by omega, zW, rfl⟩)))⟩ | exact ⟨_, _, _, Or.inr (Or.inr (Or.inr (Or.inr (Or.inl ⟨by omega, by omega, zJ, fun q => absurd q (by omega), rfl⟩))))⟩ | exact ⟨_, _, _, Or.inr (Or.inr (Or.inr (Or.inr (Or.inr (Or.inl ⟨by omega, by omega, zS, rfl, rfl⟩)))))⟩ | exact ⟨0, 0, 0, Or.inr (Or.inl ⟨by omega, by omega, by omega⟩)⟩ | exact ⟨0, 0, 0, Or.inr (Or.inr (Or.inr (Or.inr (Or.inr (Or.inr ⟨by omega, by omega, by omega, by omega, by omega, by omega⟩)))))⟩ | (exfalso; omega) | omega) (by first | exact Lo_h792 | exact ⟨st.1, st.2.1, st.2.2.2.2⟩ | exact Or.inl ⟨by omega, zF, st.2.2.1, st.2.2.2.1⟩ | exact Or.inr (Or.inr (Or.inl ⟨by omega, by omega, zC, st.2.2.1, st.2.2.2.1⟩)) | exact Or.inr (Or.inr (Or.inr (Or.inl ⟨by omega, by omega, zW, st.2.2.2.1⟩))) | exact Or.inr (Or.inr (Or.inr (Or.inr (Or.inl ⟨by omega, by omega, zJ, fun _ => st.2.2.1, st.2.2.2.1⟩)))) | exact Or.inr (Or.inr (Or.inr (Or.inr (Or.inr (Or.inl ⟨by omega, by omega, zS, st.2.2.1, st.2.2.2.1⟩))))) | exact ⟨_, _, _, Or.inl ⟨by omega, zF, rfl, rfl⟩⟩ | exact ⟨_, _, _, Or.inr (Or.inr (Or.inl ⟨by omega, by omega, zC, rfl, rfl⟩))⟩ | exact ⟨_, _, _, Or.inr (Or.inr (Or.inr (Or.inl ⟨by omega, by omega, zW, rfl⟩)))⟩ | exact ⟨_, _, _, Or.inr (Or.inr (Or.inr (Or.inr (Or.inl ⟨by omega, by omega, zJ, fun q => absurd q (by omega), rfl⟩))))⟩ | exact ⟨_, _, _, Or.inr (Or.inr (Or.inr (Or.inr (Or.inr (Or.inl ⟨by omega, by omega, zS, rfl, rfl⟩)))))⟩ | exact ⟨0, 0, 0, Or.inr (Or.inl ⟨by omega, by omega, by omega⟩)⟩ | exact ⟨0, 0, 0, Or.inr (Or.inr (Or.inr (Or.inr (Or.inr (Or.inr ⟨by omega, by omega, by omega, by omega, by omega, by omega⟩)))))⟩ | (exfalso; omega) | omega) (by first | exact Lo_h792 | exact ⟨st.1, st.2.1, st.2.2.2.2⟩ | exact Or.inl ⟨by omega, zF, st.2.2.1, st.2.2.2.1⟩ | exact Or.inr (Or.inr (Or.inl ⟨by omega, by omega, zC, st.2.2.1, st.2.2.2.1⟩)) | exact Or.inr (Or.inr (Or.inr (Or.inl ⟨by omega, by omega, zW, st.2.2.2.1⟩))) | exact Or.inr (Or.inr (Or.inr (Or.inr (Or.inl ⟨by omega, by omega, zJ, fun _ => st.2.2.1, st.2.2.2.1⟩)))) | exact Or.inr (Or.inr (Or.inr (Or.inr (Or.inr (Or.inl ⟨by omega, by omega, zS, st.2.2.1, st.2.2.2.1⟩))))) | exact ⟨_, _, _, Or.inl ⟨by omega, zF, rfl, rfl⟩⟩ | exact ⟨_, _, _, Or.inr (Or.inr (Or.inl ⟨by omega, by omega, zC, rfl, rfl⟩))⟩ | exact ⟨_, _, _, Or.inr (Or.inr (Or.inr (Or.inl ⟨by omega, by omega, zW, rfl⟩)))⟩ | exact ⟨_, _, _, Or.inr (Or.inr (Or.inr (Or.inr (Or.inl ⟨by omega, by omega, zJ, fun q => absurd q (by omega), rfl⟩))))⟩ | exact ⟨_, _, _, Or.inr (Or.inr (Or.inr (Or.inr (Or.inr (Or.inl ⟨by omega, by omega, zS, rfl, rfl⟩)))))⟩ | exact ⟨0, 0, 0, Or.inr (Or.inl ⟨by omega, by omega, by omega⟩)⟩ | exact ⟨0, 0, 0, Or.inr (Or.inr (Or.inr (Or.inr (Or.inr (Or.inr ⟨by omega, by omega, by omega, by omega, by omega, by omega⟩)))))⟩ | (exfalso; omega) | omega) Ln_h792t796 Sp_h792t797 Al_h792t798 Cu_h792t799)
            ·
              refine w_aload_n gz_49_81 rfl ?_
              refine w_iconst gz_49_82 (by decide) ?_
              refine w_inv (k := 0) (as := [(0, 5)]) (r := []) (x := 82) (ls0 := [(2, 82), (0, 5)]) gz_49_83 gm_42 rfl is_82 rd_5 rfl rfl rfl rfl rfl ?_
              refine w_aload_n gz_42_0 rfl ?_
              refine v_getI (j := 9) gz_42_1 rfl is_82 rd_5 rfl (fun v808 ev808 pv808 qv808 => ?_)
              have zv808 := ev808.trans cf
              refine w_ifne (t := 20) gz_42_4 rfl (fun u809 => by exfalso; omega) (fun u809 => ?_)
              refine w_aload_n gz_42_7 rfl ?_
              refine w_iload_n gz_42_8 rfl ?_
              refine w_bipush gz_42_9 (by decide) ?_
              refine w_aload_n gz_42_11 rfl ?_
              refine v_getI (j := 7) gz_42_12 rfl is_82 rd_5 rfl (fun v810 ev810 pv810 qv810 => ?_)
              refine w_imul gz_42_15 ⟨by omega, by omega⟩ ?_
              refine w_iadd gz_42_16 ⟨by omega, by omega⟩ ?_
              refine v_putI (j := 9) gz_42_17 rfl is_82 rd_5 rfl (by omega) (by omega) rfl (fun h811 fh811 => ?_)
              have gh811 : my_fr [(4, 4), (4, 5), (4, 6), (4, 7), (4, 8), (4, 9), (5, 5), (5, 6), (5, 7), (5, 8), (5, 9), (32, -1), (33, -1), (34, -1), (35, -1), (36, -1), (37, -1), (38, -1), (39, -1)] h h811 := my_fr.up my_fr.rf is_82 fh811 rfl
              have Ln_h811 : Ln h811 := Ln_ag (my_ag.up fh811 is_82 rfl) n_Ln
              have Sp_h811 : Sp h811 wv := Sp_ag (my_ag.up fh811 is_82 rfl) hwv n_Ln n_Sp
              have Al_h811 : Al h811 := Al_ag (my_ag.up fh811 is_82 rfl) n_Al
              have Cu_h811 : Cu h811 := Cu_ag (my_ag.up fh811 is_82 rfl) n_Cu
              have Lo_h811 : Lo h h811 := Lo_ag (my_ag.up fh811 is_82 rfl) n_Ln (Lo_rf)
              refine w_vret gz_42_20 gm_42 ?_
              show wp l rho (d + 7) 49 86 [(2, 82), (0, 0), (0, 1), (0, 1), (0, 1), (0, 0)] [] h811 Q
              have psR : h811 82 7 = h 82 7 := ((my_up_fld fh811 (by decide)).trans (rfl : h 82 7 = h 82 7))
              have npsR : cs h811 = cs h := cs_eq (fun j => my_fr.at gh811 is_92 rfl) (my_fr.at gh811 is_82 rfl)
              have c812 := (my_up_self fh811)
              exact w_vret gz_49_86 gm_49 (k0 h811 (gh811) (by omega) (by omega) (by first | exact Lo_h811 | exact ⟨st.1, st.2.1, st.2.2.2.2⟩ | exact Or.inl ⟨by omega, zF, st.2.2.1, st.2.2.2.1⟩ | exact Or.inr (Or.inr (Or.inl ⟨by omega, by omega, zC, st.2.2.1, st.2.2.2.1⟩)) | exact Or.inr (Or.inr (Or.inr (Or.inl ⟨by omega, by omega, zW, st.2.2.2.1⟩))) | exact Or.inr (Or.inr (Or.inr (Or.inr (Or.inl ⟨by omega, by omega, zJ, fun _ => st.2.2.1, st.2.2.2.1⟩)))) | exact Or.inr (Or.inr (Or.inr (Or.inr (Or.inr (Or.inl ⟨by omega, by omega, zS, st.2.2.1, st.2.2.2.1⟩))))) | exact ⟨_, _, _, Or.inl ⟨by omega, zF, rfl, rfl⟩⟩ | exact ⟨_, _, _, Or.inr (Or.inr (Or.inl ⟨by omega, by omega, zC, rfl, rfl⟩))⟩ | exact ⟨_, _, _, Or.inr (Or.inr (Or.inr (Or.inl ⟨by omega, by omega, zW, rfl⟩)))⟩ | exact ⟨_, _, _, Or.inr (Or.inr (Or.inr (Or.inr (Or.inl ⟨by omega, by omega, zJ, fun q => absurd q (by omega), rfl⟩))))⟩ | exact ⟨_, _, _, Or.inr (Or.inr (Or.inr (Or.inr (Or.inr (Or.inl ⟨by omega, by omega, zS, rfl, rfl⟩)))))⟩ | exact ⟨0, 0, 0, Or.inr (Or.inl ⟨by omega, by omega, by omega⟩)⟩ | exact ⟨0, 0, 0, Or.inr (Or.inr (Or.inr (Or.inr (Or.inr (Or.inr ⟨by omega, by omega, by omega, by omega, by omega, by omega⟩)))))⟩ | (exfalso; omega) | omega) (by first | exact Lo_h811 | exact ⟨st.1, st.2.1, st.2.2.2.2⟩ | exact Or.inl ⟨by omega, zF, st.2.2.1, st.2.2.2.1⟩ | exact Or.inr (Or.inr (Or.inl ⟨by omega, by omega, zC, st.2.2.1, st.2.2.2.1⟩)) | exact Or.inr (Or.inr (Or.inr (Or.inl ⟨by omega, by omega, zW, st.2.2.2.1⟩))) | exact Or.inr (Or.inr (Or.inr (Or.inr (Or.inl ⟨by omega, by omega, zJ, fun _ => st.2.2.1, st.2.2.2.1⟩)))) | exact Or.inr (Or.inr (Or.inr (Or.inr (Or.inr (Or.inl ⟨by omega, by omega, zS, st.2.2.1, st.2.2.2.1⟩))))) | exact ⟨_, _, _, Or.inl ⟨by omega, zF, rfl, rfl⟩⟩ | exact ⟨_, _, _, Or.inr (Or.inr (Or.inl ⟨by omega, by omega, zC, rfl, rfl⟩))⟩ | exact ⟨_, _, _, Or.inr (Or.inr (Or.inr (Or.inl ⟨by omega, by omega, zW, rfl⟩)))⟩ | exact ⟨_, _, _, Or.inr (Or.inr (Or.inr (Or.inr (Or.inl ⟨by omega, by omega, zJ, fun q => absurd q (by omega), rfl⟩))))⟩ | exact ⟨_, _, _, Or.inr (Or.inr (Or.inr (Or.inr (Or.inr (Or.inl ⟨by omega, by omega, zS, rfl, rfl⟩)))))⟩ | exact ⟨0, 0, 0, Or.inr (Or.inl ⟨by omega, by omega, by omega⟩)⟩ | exact ⟨0, 0, 0, Or.inr (Or.inr (Or.inr (Or.inr (Or.inr (Or.inr ⟨by omega, by omega, by omega, by omega, by omega, by omega⟩)))))⟩ | (exfalso; omega) | omega) Ln_h811 Sp_h811 Al_h811 Cu_h811)
          ·
            show wp l rho (d + 7) 49 35 [(2, 82), (0, 0), (0, 1), (0, 1), (0, 1), (9, 0)] [(0, 1)] h Q
            rw [show wc ((8 : Nat) : Int) = 26801 from by decide] at xp764
            refine w_istore (ls' := [(2, 82), (0, 0), (0, 1), (0, 1), (0, 1), (0, 1)]) gz_49_35 gm_49 rfl rfl rfl ?_
            refine w_iload_n gz_49_37 rfl ?_
            refine w_ifne (t := 65) gz_49_38 rfl (fun u813 => by exfalso; omega) (fun u813 => ?_)
            refine w_iload_n gz_49_41 rfl ?_
            refine w_ifne (t := 65) gz_49_42 rfl (fun u814 => ?_) (fun u814 => by exfalso; omega)
            refine w_iload_n gz_49_65 rfl ?_
            refine w_ifne (t := 87) gz_49_66 rfl (fun u815 => by exfalso; omega) (fun u815 => ?_)
            refine w_aload_n gz_49_69 rfl ?_
            refine v_getR (j := 2) gz_49_70 rfl is_82 rd_5 rfl (fun v816 ev816 tv816 => ?_)
            have sE73 : v816 = h 82 2 := by first | assumption | omega
            refine v_getI (j := 9) gz_49_73 rfl tv816 rd_4 rfl (fun v817 ev817 pv817 qv817 => ?_)
            have c76 : v817 = h (h 82 2) 9 := by rw [← sE73]; omega
            refine w_bipush gz_49_76 (by decide) ?_
            refine w_iclt (t := 87) gz_49_78 rfl (fun u818 => ?_) (fun u818 => ?_)
            ·
              have St5_ht819 : St5 h := ⟨by subst_vars; omega, by subst_vars; omega⟩
              refine w_aload_n gz_49_87 rfl ?_
              refine w_inv (k := 2) (as := []) (r := []) (x := 82) (ls0 := [(2, 82), (9, 0), (9, 0)]) gz_49_88 gm_37 rfl is_82 rd_5 rfl rfl rfl rfl rfl (c_Reader_nextToken9_f0 (d := (d + 5))  (cf.trans (by omega)) n_Al (fun h820 frh820 w821 w822 w823 xp824 xp825 Al_h820t826 Cu_h820t827 => ?_))
              have gh820 : my_fr [(4, 4), (4, 5), (4, 6), (4, 7), (4, 8), (4, 9), (5, 5), (5, 6), (5, 7), (5, 8), (5, 9), (32, -1), (33, -1), (34, -1), (35, -1), (36, -1), (37, -1), (38, -1), (39, -1)] h h820 := my_fr.tr my_fr.rf (frh820.mo rfl)
              have Ln_h820 : Ln h820 := Ln_ag (my_ag.fr frh820 rfl) n_Ln
              have Sp_h820 : Sp h820 wv := Sp_ag (my_ag.fr frh820 rfl) hwv n_Ln n_Sp
              have Lo_h820 : Lo h h820 := Lo_ag (my_ag.fr frh820 rfl) n_Ln (Lo_rf)
              have St5_h820 : St5 h820 := St5_ag (my_ag.fr frh820 rfl) n_Ln St5_ht819
              show wp l rho (d + 7) 49 91 [(2, 82), (0, 0), (0, 1), (0, 1), (0, 1), (0, 1)] [] h820 Q
              have xc828 := xp824 n_Cu
              have ck829 := Cu_s Cu_h820t827
              rw [show cs h820 = cs h from cs_eq (fun j => my_fr.at gh820 is_92 rfl) (my_fr.at gh820 is_82 rfl)] at ck829
              rw [show h820 82 7 = (sN (cs h) (h 82 7)) from xc828] at ck829
              refine w_iload_n gz_49_91 rfl ?_
              refine w_ifeq (t := 102) gz_49_92 rfl (fun u830 => ?_) (fun u830 => by exfalso; omega)
              refine w_iload_n gz_49_102 rfl ?_
              refine w_ifeq (t := 113) gz_49_103 rfl (fun u831 => by exfalso; omega) (fun u831 => ?_)
              refine w_aload_n gz_49_106 rfl ?_
              refine w_inv (k := 3) (as := []) (r := []) (x := 82) (ls0 := [(2, 82), (9, 0), (9, 0), (9, 0)]) gz_49_107 gm_52 rfl is_82 rd_5 rfl rfl rfl rfl rfl (c_Reader_readCut9_f0 (d := (d + 1))  (wv := wv) (((my_fr.at frh820 is_82 rfl).trans cf).trans (by omega)) (by first | assumption | omega) (by first | assumption | omega) Ln_h820 Sp_h820 St5_h820 Al_h820t826 Cu_h820t827 (fun h832 frh832 w833 w834 xp835 Ln_h832t836 Sp_h832t837 Al_h832t838 Cu_h832t839 => ?_) (fun h840 frh840 w841 xp842 xp843 Ln_h840t844 Sp_h840t845 Al_h840t846 Cu_h840t847 => ?_))
              ·
                have gh832 : my_fr [(4, 4), (4, 5), (4, 6), (4, 7), (4, 8), (4, 9), (5, 5), (5, 6), (5, 7), (5, 8), (5, 9), (32, -1), (33, -1), (34, -1), (35, -1), (36, -1), (37, -1), (38, -1), (39, -1)] h h832 := my_fr.tr gh820 (frh832.mo rfl)
                have Lo_h832 : Lo h h832 := Lo_ag (my_ag.fr frh832 rfl) Ln_h820 Lo_h820
                show wp l rho (d + 7) 49 110 [(2, 82), (0, 0), (0, 1), (0, 1), (0, 1), (0, 1)] [] h832 Q
                have tE848 : cs h820 = cs h := cs_eq (fun j => my_fr.at gh820 is_92 rfl) (my_fr.at gh820 is_82 rfl)
                rw [tE848] at xp835
                have ps849 : h820 82 7 = (sN (cs h) (h 82 7)) := xc828
                rw [ps849] at xp835
                have ck850 := Cu_s Cu_h832t839
                rw [show cs h832 = cs h from cs_eq (fun j => my_fr.at gh832 is_92 rfl) (my_fr.at gh832 is_82 rfl)] at ck850
                have q2 : h820 82 2 = h 82 2 := my_fr.at frh820 is_82 rfl
                have q11 : h820 (h 82 2) 1 = h (h 82 2) 1 := my_fr.at frh820 n_Ln.2.2.2.1 rfl
                have q13 : h820 (h 82 2) 3 = h (h 82 2) 3 := my_fr.at frh820 n_Ln.2.2.2.1 rfl
                have q14 : h820 (h 82 2) 4 = h (h 82 2) 4 := my_fr.at frh820 n_Ln.2.2.2.1 rfl
                have q19 : h820 (h 82 2) 9 = h (h 82 2) 9 := my_fr.at frh820 n_Ln.2.2.2.1 rfl
                have qc : h820 2 = h 2 := funext (fun j => my_fr.at frh820 is_2 rfl)
                have zC := xp835
                simp only [q2, q11, q13, q14, q19, qc] at zC
                refine w_goto (t := 140) gz_49_110 rfl ?_
                have psR : h832 82 7 = h832 82 7 := (rfl : h832 82 7 = h832 82 7)
                have npsR : cs h832 = cs h := cs_eq (fun j => my_fr.at gh832 is_92 rfl) (my_fr.at gh832 is_82 rfl)
                have c851 := (rfl : h832 82 9 = h832 82 9)
                exact w_vret gz_49_140 gm_49 (k0 h832 (gh832) (by omega) (by omega) (by first | exact Lo_h832 | exact ⟨st.1, st.2.1, st.2.2.2.2⟩ | exact Or.inl ⟨by omega, zF, st.2.2.1, st.2.2.2.1⟩ | exact Or.inr (Or.inr (Or.inl ⟨by omega, by omega, zC, st.2.2.1, st.2.2.2.1⟩)) | exact Or.inr (Or.inr (Or.inr (Or.inl ⟨by omega, by omega, zW, st.2.2.2.1⟩))) | exact Or.inr (Or.inr (Or.inr (Or.inr (Or.inl ⟨by omega, by omega, zJ, fun _ => st.2.2.1, st.2.2.2.1⟩)))) | exact Or.inr (Or.inr (Or.inr (Or.inr (Or.inr (Or.inl ⟨by omega, by omega, zS, st.2.2.1, st.2.2.2.1⟩))))) | exact ⟨_, _, _, Or.inl ⟨by omega, zF, rfl, rfl⟩⟩ | exact ⟨_, _, _, Or.inr (Or.inr (Or.inl ⟨by omega, by omega, zC, rfl, rfl⟩))⟩ | exact ⟨_, _, _, Or.inr (Or.inr (Or.inr (Or.inl ⟨by omega, by omega, zW, rfl⟩)))⟩ | exact ⟨_, _, _, Or.inr (Or.inr (Or.inr (Or.inr (Or.inl ⟨by omega, by omega, zJ, fun q => absurd q (by omega), rfl⟩))))⟩ | exact ⟨_, _, _, Or.inr (Or.inr (Or.inr (Or.inr (Or.inr (Or.inl ⟨by omega, by omega, zS, rfl, rfl⟩)))))⟩ | exact ⟨0, 0, 0, Or.inr (Or.inl ⟨by omega, by omega, by omega⟩)⟩ | exact ⟨0, 0, 0, Or.inr (Or.inr (Or.inr (Or.inr (Or.inr (Or.inr ⟨by omega, by omega, by omega, by omega, by omega, by omega⟩)))))⟩ | (exfalso; omega) | omega) (by first | exact Lo_h832 | exact ⟨st.1, st.2.1, st.2.2.2.2⟩ | exact Or.inl ⟨by omega, zF, st.2.2.1, st.2.2.2.1⟩ | exact Or.inr (Or.inr (Or.inl ⟨by omega, by omega, zC, st.2.2.1, st.2.2.2.1⟩)) | exact Or.inr (Or.inr (Or.inr (Or.inl ⟨by omega, by omega, zW, st.2.2.2.1⟩))) | exact Or.inr (Or.inr (Or.inr (Or.inr (Or.inl ⟨by omega, by omega, zJ, fun _ => st.2.2.1, st.2.2.2.1⟩)))) | exact Or.inr (Or.inr (Or.inr (Or.inr (Or.inr (Or.inl ⟨by omega, by omega, zS, st.2.2.1, st.2.2.2.1⟩))))) | exact ⟨_, _, _, Or.inl ⟨by omega, zF, rfl, rfl⟩⟩ | exact ⟨_, _, _, Or.inr (Or.inr (Or.inl ⟨by omega, by omega, zC, rfl, rfl⟩))⟩ | exact ⟨_, _, _, Or.inr (Or.inr (Or.inr (Or.inl ⟨by omega, by omega, zW, rfl⟩)))⟩ | exact ⟨_, _, _, Or.inr (Or.inr (Or.inr (Or.inr (Or.inl ⟨by omega, by omega, zJ, fun q => absurd q (by omega), rfl⟩))))⟩ | exact ⟨_, _, _, Or.inr (Or.inr (Or.inr (Or.inr (Or.inr (Or.inl ⟨by omega, by omega, zS, rfl, rfl⟩)))))⟩ | exact ⟨0, 0, 0, Or.inr (Or.inl ⟨by omega, by omega, by omega⟩)⟩ | exact ⟨0, 0, 0, Or.inr (Or.inr (Or.inr (Or.inr (Or.inr (Or.inr ⟨by omega, by omega, by omega, by omega, by omega, by omega⟩)))))⟩ | (exfalso; omega) | omega) Ln_h832t836 Sp_h832t837 Al_h832t838 Cu_h832t839)
              ·
                have gh840 : my_fr [(4, 4), (4, 5), (4, 6), (4, 7), (4, 8), (4, 9), (5, 5), (5, 6), (5, 7), (5, 8), (5, 9), (32, -1), (33, -1), (34, -1), (35, -1), (36, -1), (37, -1), (38, -1), (39, -1)] h h840 := my_fr.tr gh820 (frh840.mo rfl)
                have Lo_h840 : Lo h h840 := Lo_ag (my_ag.fr frh840 rfl) Ln_h820 Lo_h820
                show wp l rho (d + 7) 49 110 [(2, 82), (0, 0), (0, 1), (0, 1), (0, 1), (0, 1)] [] h840 Q
                have tE852 : cs h820 = cs h := cs_eq (fun j => my_fr.at gh820 is_92 rfl) (my_fr.at gh820 is_82 rfl)
                rw [tE852] at xp842
                have ps853 : h820 82 7 = (sN (cs h) (h 82 7)) := xc828
                rw [ps853] at xp842
                have ck854 := Cu_s Cu_h840t847
                rw [show cs h840 = cs h from cs_eq (fun j => my_fr.at gh840 is_92 rfl) (my_fr.at gh840 is_82 rfl)] at ck854
                have q2 : h820 82 2 = h 82 2 := my_fr.at frh820 is_82 rfl
                have q11 : h820 (h 82 2) 1 = h (h 82 2) 1 := my_fr.at frh820 n_Ln.2.2.2.1 rfl
                have q13 : h820 (h 82 2) 3 = h (h 82 2) 3 := my_fr.at frh820 n_Ln.2.2.2.1 rfl
                have q14 : h820 (h 82 2) 4 = h (h 82 2) 4 := my_fr.at frh820 n_Ln.2.2.2.1 rfl
                have q19 : h820 (h 82 2) 9 = h (h 82 2) 9 := my_fr.at frh820 n_Ln.2.2.2.1 rfl
                have qc : h820 2 = h 2 := funext (fun j => my_fr.at frh820 is_2 rfl)
                have zC := xp842
                simp only [q2, q11, q13, q14, q19, qc] at zC
                have st := xp843
                unfold Std at st
                simp only [q2, q11, q13, q14, q19, qc] at st
                refine w_goto (t := 140) gz_49_110 rfl ?_
                have psR : h840 82 7 = h840 82 7 := (rfl : h840 82 7 = h840 82 7)
                have npsR : cs h840 = cs h := cs_eq (fun j => my_fr.at gh840 is_92 rfl) (my_fr.at gh840 is_82 rfl)
                have c855 := w841
                exact w_vret gz_49_140 gm_49 (k1 h840 (gh840) (by omega) (by first | exact Lo_h840 | exact ⟨st.1, st.2.1, st.2.2.2.2⟩ | exact Or.inl ⟨by omega, zF, st.2.2.1, st.2.2.2.1⟩ | exact Or.inr (Or.inr (Or.inl ⟨by omega, by omega, zC, st.2.2.1, st.2.2.2.1⟩)) | exact Or.inr (Or.inr (Or.inr (Or.inl ⟨by omega, by omega, zW, st.2.2.2.1⟩))) | exact Or.inr (Or.inr (Or.inr (Or.inr (Or.inl ⟨by omega, by omega, zJ, fun _ => st.2.2.1, st.2.2.2.1⟩)))) | exact Or.inr (Or.inr (Or.inr (Or.inr (Or.inr (Or.inl ⟨by omega, by omega, zS, st.2.2.1, st.2.2.2.1⟩))))) | exact ⟨_, _, _, Or.inl ⟨by omega, zF, rfl, rfl⟩⟩ | exact ⟨_, _, _, Or.inr (Or.inr (Or.inl ⟨by omega, by omega, zC, rfl, rfl⟩))⟩ | exact ⟨_, _, _, Or.inr (Or.inr (Or.inr (Or.inl ⟨by omega, by omega, zW, rfl⟩)))⟩ | exact ⟨_, _, _, Or.inr (Or.inr (Or.inr (Or.inr (Or.inl ⟨by omega, by omega, zJ, fun q => absurd q (by omega), rfl⟩))))⟩ | exact ⟨_, _, _, Or.inr (Or.inr (Or.inr (Or.inr (Or.inr (Or.inl ⟨by omega, by omega, zS, rfl, rfl⟩)))))⟩ | exact ⟨0, 0, 0, Or.inr (Or.inl ⟨by omega, by omega, by omega⟩)⟩ | exact ⟨0, 0, 0, Or.inr (Or.inr (Or.inr (Or.inr (Or.inr (Or.inr ⟨by omega, by omega, by omega, by omega, by omega, by omega⟩)))))⟩ | (exfalso; omega) | omega) (by first | exact Lo_h840 | exact ⟨st.1, st.2.1, st.2.2.2.2⟩ | exact Or.inl ⟨by omega, zF, st.2.2.1, st.2.2.2.1⟩ | exact Or.inr (Or.inr (Or.inl ⟨by omega, by omega, zC, st.2.2.1, st.2.2.2.1⟩)) | exact Or.inr (Or.inr (Or.inr (Or.inl ⟨by omega, by omega, zW, st.2.2.2.1⟩))) | exact Or.inr (Or.inr (Or.inr (Or.inr (Or.inl ⟨by omega, by omega, zJ, fun _ => st.2.2.1, st.2.2.2.1⟩)))) | exact Or.inr (Or.inr (Or.inr (Or.inr (Or.inr (Or.inl ⟨by omega, by omega, zS, st.2.2.1, st.2.2.2.1⟩))))) | exact ⟨_, _, _, Or.inl ⟨by omega, zF, rfl, rfl⟩⟩ | exact ⟨_, _, _, Or.inr (Or.inr (Or.inl ⟨by omega, by omega, zC, rfl, rfl⟩))⟩ | exact ⟨_, _, _, Or.inr (Or.inr (Or.inr (Or.inl ⟨by omega, by omega, zW, rfl⟩)))⟩ | exact ⟨_, _, _, Or.inr (Or.inr (Or.inr (Or.inr (Or.inl ⟨by omega, by omega, zJ, fun q => absurd q (by omega), rfl⟩))))⟩ | exact ⟨_, _, _, Or.inr (Or.inr (Or.inr (Or.inr (Or.inr (Or.inl ⟨by omega, by omega, zS, rfl, rfl⟩)))))⟩ | exact ⟨0, 0, 0, Or.inr (Or.inl ⟨by omega, by omega, by omega⟩)⟩ | exact ⟨0, 0, 0, Or.inr (Or.inr (Or.inr (Or.inr (Or.inr (Or.inr ⟨by omega, by omega, by omega, by omega, by omega, by omega⟩)))))⟩ | (exfalso; omega) | omega) (by first | exact Lo_h840 | exact ⟨st.1, st.2.1, st.2.2.2.2⟩ | exact Or.inl ⟨by omega, zF, st.2.2.1, st.2.2.2.1⟩ | exact Or.inr (Or.inr (Or.inl ⟨by omega, by omega, zC, st.2.2.1, st.2.2.2.1⟩)) | exact Or.inr (Or.inr (Or.inr (Or.inl ⟨by omega, by omega, zW, st.2.2.2.1⟩))) | exact Or.inr (Or.inr (Or.inr (Or.inr (Or.inl ⟨by omega, by omega, zJ, fun _ => st.2.2.1, st.2.2.2.1⟩)))) | exact Or.inr (Or.inr (Or.inr (Or.inr (Or.inr (Or.inl ⟨by omega, by omega, zS, st.2.2.1, st.2.2.2.1⟩))))) | exact ⟨_, _, _, Or.inl ⟨by omega, zF, rfl, rfl⟩⟩ | exact ⟨_, _, _, Or.inr (Or.inr (Or.inl ⟨by omega, by omega, zC, rfl, rfl⟩))⟩ | exact ⟨_, _, _, Or.inr (Or.inr (Or.inr (Or.inl ⟨by omega, by omega, zW, rfl⟩)))⟩ | exact ⟨_, _, _, Or.inr (Or.inr (Or.inr (Or.inr (Or.inl ⟨by omega, by omega, zJ, fun q => absurd q (by omega), rfl⟩))))⟩ | exact ⟨_, _, _, Or.inr (Or.inr (Or.inr (Or.inr (Or.inr (Or.inl ⟨by omega, by omega, zS, rfl, rfl⟩)))))⟩ | exact ⟨0, 0, 0, Or.inr (Or.inl ⟨by omega, by omega, by omega⟩)⟩ | exact ⟨0, 0, 0, Or.inr (Or.inr (Or.inr (Or.inr (Or.inr (Or.inr ⟨by omega, by omega, by omega, by omega, by omega, by omega⟩)))))⟩ | (exfalso; omega) | omega) Ln_h840t844 Sp_h840t845 Al_h840t846 Cu_h840t847)
            ·
              refine w_aload_n gz_49_81 rfl ?_
              refine w_iconst gz_49_82 (by decide) ?_
              refine w_inv (k := 0) (as := [(0, 5)]) (r := []) (x := 82) (ls0 := [(2, 82), (0, 5)]) gz_49_83 gm_42 rfl is_82 rd_5 rfl rfl rfl rfl rfl ?_
              refine w_aload_n gz_42_0 rfl ?_
              refine v_getI (j := 9) gz_42_1 rfl is_82 rd_5 rfl (fun v856 ev856 pv856 qv856 => ?_)
              have zv856 := ev856.trans cf
              refine w_ifne (t := 20) gz_42_4 rfl (fun u857 => by exfalso; omega) (fun u857 => ?_)
              refine w_aload_n gz_42_7 rfl ?_
              refine w_iload_n gz_42_8 rfl ?_
              refine w_bipush gz_42_9 (by decide) ?_
              refine w_aload_n gz_42_11 rfl ?_
              refine v_getI (j := 7) gz_42_12 rfl is_82 rd_5 rfl (fun v858 ev858 pv858 qv858 => ?_)
              refine w_imul gz_42_15 ⟨by omega, by omega⟩ ?_
              refine w_iadd gz_42_16 ⟨by omega, by omega⟩ ?_
              refine v_putI (j := 9) gz_42_17 rfl is_82 rd_5 rfl (by omega) (by omega) rfl (fun h859 fh859 => ?_)
              have gh859 : my_fr [(4, 4), (4, 5), (4, 6), (4, 7), (4, 8), (4, 9), (5, 5), (5, 6), (5, 7), (5, 8), (5, 9), (32, -1), (33, -1), (34, -1), (35, -1), (36, -1), (37, -1), (38, -1), (39, -1)] h h859 := my_fr.up my_fr.rf is_82 fh859 rfl
              have Ln_h859 : Ln h859 := Ln_ag (my_ag.up fh859 is_82 rfl) n_Ln
              have Sp_h859 : Sp h859 wv := Sp_ag (my_ag.up fh859 is_82 rfl) hwv n_Ln n_Sp
              have Al_h859 : Al h859 := Al_ag (my_ag.up fh859 is_82 rfl) n_Al
              have Cu_h859 : Cu h859 := Cu_ag (my_ag.up fh859 is_82 rfl) n_Cu
              have Lo_h859 : Lo h h859 := Lo_ag (my_ag.up fh859 is_82 rfl) n_Ln (Lo_rf)
              refine w_vret gz_42_20 gm_42 ?_
              show wp l rho (d + 7) 49 86 [(2, 82), (0, 0), (0, 1), (0, 1), (0, 1), (0, 1)] [] h859 Q
              have psR : h859 82 7 = h 82 7 := ((my_up_fld fh859 (by decide)).trans (rfl : h 82 7 = h 82 7))
              have npsR : cs h859 = cs h := cs_eq (fun j => my_fr.at gh859 is_92 rfl) (my_fr.at gh859 is_82 rfl)
              have c860 := (my_up_self fh859)
              exact w_vret gz_49_86 gm_49 (k0 h859 (gh859) (by omega) (by omega) (by first | exact Lo_h859 | exact ⟨st.1, st.2.1, st.2.2.2.2⟩ | exact Or.inl ⟨by omega, zF, st.2.2.1, st.2.2.2.1⟩ | exact Or.inr (Or.inr (Or.inl ⟨by omega, by omega, zC, st.2.2.1, st.2.2.2.1⟩)) | exact Or.inr (Or.inr (Or.inr (Or.inl ⟨by omega, by omega, zW, st.2.2.2.1⟩))) | exact Or.inr (Or.inr (Or.inr (Or.inr (Or.inl ⟨by omega, by omega, zJ, fun _ => st.2.2.1, st.2.2.2.1⟩)))) | exact Or.inr (Or.inr (Or.inr (Or.inr (Or.inr (Or.inl ⟨by omega, by omega, zS, st.2.2.1, st.2.2.2.1⟩))))) | exact ⟨_, _, _, Or.inl ⟨by omega, zF, rfl, rfl⟩⟩ | exact ⟨_, _, _, Or.inr (Or.inr (Or.inl ⟨by omega, by omega, zC, rfl, rfl⟩))⟩ | exact ⟨_, _, _, Or.inr (Or.inr (Or.inr (Or.inl ⟨by omega, by omega, zW, rfl⟩)))⟩ | exact ⟨_, _, _, Or.inr (Or.inr (Or.inr (Or.inr (Or.inl ⟨by omega, by omega, zJ, fun q => absurd q (by omega), rfl⟩))))⟩ | exact ⟨_, _, _, Or.inr (Or.inr (Or.inr (Or.inr (Or.inr (Or.inl ⟨by omega, by omega, zS, rfl, rfl⟩)))))⟩ | exact ⟨0, 0, 0, Or.inr (Or.inl ⟨by omega, by omega, by omega⟩)⟩ | exact ⟨0, 0, 0, Or.inr (Or.inr (Or.inr (Or.inr (Or.inr (Or.inr ⟨by omega, by omega, by omega, by omega, by omega, by omega⟩)))))⟩ | (exfalso; omega) | omega) (by first | exact Lo_h859 | exact ⟨st.1, st.2.1, st.2.2.2.2⟩ | exact Or.inl ⟨by omega, zF, st.2.2.1, st.2.2.2.1⟩ | exact Or.inr (Or.inr (Or.inl ⟨by omega, by omega, zC, st.2.2.1, st.2.2.2.1⟩)) | exact Or.inr (Or.inr (Or.inr (Or.inl ⟨by omega, by omega, zW, st.2.2.2.1⟩))) | exact Or.inr (Or.inr (Or.inr (Or.inr (Or.inl ⟨by omega, by omega, zJ, fun _ => st.2.2.1, st.2.2.2.1⟩)))) | exact Or.inr (Or.inr (Or.inr (Or.inr (Or.inr (Or.inl ⟨by omega, by omega, zS, st.2.2.1, st.2.2.2.1⟩))))) | exact ⟨_, _, _, Or.inl ⟨by omega, zF, rfl, rfl⟩⟩ | exact ⟨_, _, _, Or.inr (Or.inr (Or.inl ⟨by omega, by omega, zC, rfl, rfl⟩))⟩ | exact ⟨_, _, _, Or.inr (Or.inr (Or.inr (Or.inl ⟨by omega, by omega, zW, rfl⟩)))⟩ | exact ⟨_, _, _, Or.inr (Or.inr (Or.inr (Or.inr (Or.inl ⟨by omega, by omega, zJ, fun q => absurd q (by omega), rfl⟩))))⟩ | exact ⟨_, _, _, Or.inr (Or.inr (Or.inr (Or.inr (Or.inr (Or.inl ⟨by omega, by omega, zS, rfl, rfl⟩)))))⟩ | exact ⟨0, 0, 0, Or.inr (Or.inl ⟨by omega, by omega, by omega⟩)⟩ | exact ⟨0, 0, 0, Or.inr (Or.inr (Or.inr (Or.inr (Or.inr (Or.inr ⟨by omega, by omega, by omega, by omega, by omega, by omega⟩)))))⟩ | (exfalso; omega) | omega) Ln_h859 Sp_h859 Al_h859 Cu_h859)
  ·
    show wp l rho (d + 7) 49 6 [(2, 82), (9, 0), (9, 0), (9, 0), (9, 0), (9, 0)] [(0, 1)] h Q
    rw [show wc ((4 : Nat) : Int) = 316695 from by decide] at xp6
    refine w_istore_n (ls' := [(2, 82), (0, 1), (9, 0), (9, 0), (9, 0), (9, 0)]) gz_49_6 gm_49 rfl rfl rfl ?_
    refine w_aload_n gz_49_7 rfl ?_
    refine w_ldcS gz_49_8 (by decide) ?_
    refine w_inv (k := 1) (as := [(3, ((5 : Nat) : Int))]) (r := []) (x := 82) (ls0 := [(2, 82), (3, ((5 : Nat) : Int)), (9, 0)]) gz_49_10 gm_41 rfl is_82 rd_5 rfl rfl rfl rfl rfl (c_Reader_isWord9_f0 (d := (d + 2)) (x1 := ((5 : Nat) : Int)) (by decide) (cf.trans (by omega)) n_Cu (fun w861 xp862 => ?_) (fun w863 w864 xp865 => ?_))
    ·
      show wp l rho (d + 7) 49 13 [(2, 82), (0, 1), (9, 0), (9, 0), (9, 0), (9, 0)] [(0, 0)] h Q
      rw [show wc ((5 : Nat) : Int) = 4904 from by decide] at xp862
      refine w_istore_n (ls' := [(2, 82), (0, 1), (0, 0), (9, 0), (9, 0), (9, 0)]) gz_49_13 gm_49 rfl rfl rfl ?_
      refine w_aload_n gz_49_14 rfl ?_
      refine w_ldcS gz_49_15 (by decide) ?_
      refine w_inv (k := 1) (as := [(3, ((6 : Nat) : Int))]) (r := []) (x := 82) (ls0 := [(2, 82), (3, ((6 : Nat) : Int)), (9, 0)]) gz_49_17 gm_41 rfl is_82 rd_5 rfl rfl rfl rfl rfl (c_Reader_isWord9_f0 (d := (d + 2)) (x1 := ((6 : Nat) : Int)) (by decide) (cf.trans (by omega)) n_Cu (fun w866 xp867 => ?_) (fun w868 w869 xp870 => ?_))
      ·
        show wp l rho (d + 7) 49 20 [(2, 82), (0, 1), (0, 0), (9, 0), (9, 0), (9, 0)] [(0, 0)] h Q
        rw [show wc ((6 : Nat) : Int) = 8422 from by decide] at xp867
        refine w_istore_n (ls' := [(2, 82), (0, 1), (0, 0), (0, 0), (9, 0), (9, 0)]) gz_49_20 gm_49 rfl rfl rfl ?_
        refine w_aload_n gz_49_21 rfl ?_
        refine w_ldcS gz_49_22 (by decide) ?_
        refine w_inv (k := 1) (as := [(3, ((7 : Nat) : Int))]) (r := []) (x := 82) (ls0 := [(2, 82), (3, ((7 : Nat) : Int)), (9, 0)]) gz_49_24 gm_41 rfl is_82 rd_5 rfl rfl rfl rfl rfl (c_Reader_isWord9_f0 (d := (d + 2)) (x1 := ((7 : Nat) : Int)) (by decide) (cf.trans (by omega)) n_Cu (fun w871 xp872 => ?_) (fun w873 w874 xp875 => ?_))
        ·
          show wp l rho (d + 7) 49 27 [(2, 82), (0, 1), (0, 0), (0, 0), (9, 0), (9, 0)] [(0, 0)] h Q
          rw [show wc ((7 : Nat) : Int) = 527412 from by decide] at xp872
          refine w_istore (ls' := [(2, 82), (0, 1), (0, 0), (0, 0), (0, 0), (9, 0)]) gz_49_27 gm_49 rfl rfl rfl ?_
          refine w_aload_n gz_49_29 rfl ?_
          refine w_ldcS gz_49_30 (by decide) ?_
          refine w_inv (k := 1) (as := [(3, ((8 : Nat) : Int))]) (r := []) (x := 82) (ls0 := [(2, 82), (3, ((8 : Nat) : Int)), (9, 0)]) gz_49_32 gm_41 rfl is_82 rd_5 rfl rfl rfl rfl rfl (c_Reader_isWord9_f0 (d := (d + 2)) (x1 := ((8 : Nat) : Int)) (by decide) (cf.trans (by omega)) n_Cu (fun w876 xp877 => ?_) (fun w878 w879 xp880 => ?_))
          ·
            show wp l rho (d + 7) 49 35 [(2, 82), (0, 1), (0, 0), (0, 0), (0, 0), (9, 0)] [(0, 0)] h Q
            rw [show wc ((8 : Nat) : Int) = 26801 from by decide] at xp877
            refine w_istore (ls' := [(2, 82), (0, 1), (0, 0), (0, 0), (0, 0), (0, 0)]) gz_49_35 gm_49 rfl rfl rfl ?_
            refine w_iload_n gz_49_37 rfl ?_
            refine w_ifne (t := 65) gz_49_38 rfl (fun u881 => ?_) (fun u881 => by exfalso; omega)
            refine w_iload_n gz_49_65 rfl ?_
            refine w_ifne (t := 87) gz_49_66 rfl (fun u882 => ?_) (fun u882 => by exfalso; omega)
            refine w_aload_n gz_49_87 rfl ?_
            refine w_inv (k := 2) (as := []) (r := []) (x := 82) (ls0 := [(2, 82), (9, 0), (9, 0)]) gz_49_88 gm_37 rfl is_82 rd_5 rfl rfl rfl rfl rfl (c_Reader_nextToken9_f0 (d := (d + 5))  (cf.trans (by omega)) n_Al (fun h883 frh883 w884 w885 w886 xp887 xp888 Al_h883t889 Cu_h883t890 => ?_))
            have gh883 : my_fr [(4, 4), (4, 5), (4, 6), (4, 7), (4, 8), (4, 9), (5, 5), (5, 6), (5, 7), (5, 8), (5, 9), (32, -1), (33, -1), (34, -1), (35, -1), (36, -1), (37, -1), (38, -1), (39, -1)] h h883 := my_fr.tr my_fr.rf (frh883.mo rfl)
            have Ln_h883 : Ln h883 := Ln_ag (my_ag.fr frh883 rfl) n_Ln
            have Sp_h883 : Sp h883 wv := Sp_ag (my_ag.fr frh883 rfl) hwv n_Ln n_Sp
            have Lo_h883 : Lo h h883 := Lo_ag (my_ag.fr frh883 rfl) n_Ln (Lo_rf)
            show wp l rho (d + 7) 49 91 [(2, 82), (0, 1), (0, 0), (0, 0), (0, 0), (0, 0)] [] h883 Q
            have xc891 := xp887 n_Cu
            have ck892 := Cu_s Cu_h883t890
            rw [show cs h883 = cs h from cs_eq (fun j => my_fr.at gh883 is_92 rfl) (my_fr.at gh883 is_82 rfl)] at ck892
            rw [show h883 82 7 = (sN (cs h) (h 82 7)) from xc891] at ck892
            refine w_iload_n gz_49_91 rfl ?_
            refine w_ifeq (t := 102) gz_49_92 rfl (fun u893 => by exfalso; omega) (fun u893 => ?_)
            refine w_aload_n gz_49_95 rfl ?_
            refine w_inv (k := 2) (as := []) (r := []) (x := 82) (ls0 := [(2, 82), (9, 0), (9, 0)]) gz_49_96 gm_50 rfl is_82 rd_5 rfl rfl rfl rfl rfl (c_Reader_readFill9_f0 (d := (d + 3))  (((my_fr.at frh883 is_82 rfl).trans cf).trans (by omega)) Al_h883t889 Cu_h883t890 (fun h894 frh894 w895 w896 xp897 Al_h894t898 Cu_h894t899 => ?_) (fun h900 frh900 w901 xp902 Al_h900t903 Cu_h900t904 => ?_))
            ·
              have gh894 : my_fr [(4, 4), (4, 5), (4, 6), (4, 7), (4, 8), (4, 9), (5, 5), (5, 6), (5, 7), (5, 8), (5, 9), (32, -1), (33, -1), (34, -1), (35, -1), (36, -1), (37, -1), (38, -1), (39, -1)] h h894 := my_fr.tr gh883 (frh894.mo rfl)
              have Ln_h894 : Ln h894 := Ln_ag (my_ag.fr frh894 rfl) Ln_h883
              have Sp_h894 : Sp h894 wv := Sp_ag (my_ag.fr frh894 rfl) hwv Ln_h883 Sp_h883
              have Lo_h894 : Lo h h894 := Lo_ag (my_ag.fr frh894 rfl) Ln_h883 Lo_h883
              show wp l rho (d + 7) 49 99 [(2, 82), (0, 1), (0, 0), (0, 0), (0, 0), (0, 0)] [] h894 Q
              have tE905 : cs h883 = cs h := cs_eq (fun j => my_fr.at gh883 is_92 rfl) (my_fr.at gh883 is_82 rfl)
              rw [tE905] at xp897
              have ps906 : h883 82 7 = (sN (cs h) (h 82 7)) := xc891
              rw [ps906] at xp897
              have ck907 := Cu_s Cu_h894t899
              rw [show cs h894 = cs h from cs_eq (fun j => my_fr.at gh894 is_92 rfl) (my_fr.at gh894 is_82 rfl)] at ck907
              have q2 : h883 82 2 = h 82 2 := my_fr.at frh883 is_82 rfl
              have q11 : h883 (h 82 2) 1 = h (h 82 2) 1 := my_fr.at frh883 n_Ln.2.2.2.1 rfl
              have q13 : h883 (h 82 2) 3 = h (h 82 2) 3 := my_fr.at frh883 n_Ln.2.2.2.1 rfl
              have q14 : h883 (h 82 2) 4 = h (h 82 2) 4 := my_fr.at frh883 n_Ln.2.2.2.1 rfl
              have q19 : h883 (h 82 2) 9 = h (h 82 2) 9 := my_fr.at frh883 n_Ln.2.2.2.1 rfl
              have qc : h883 2 = h 2 := funext (fun j => my_fr.at frh883 is_2 rfl)
              have zF := xp897
              simp only [q2, q11, q13, q14, q19, qc] at zF
              have st : h894 82 2 = h 82 2 ∧ h894 (h 82 2) 3 = h (h 82 2) 3 ∧ h894 (h 82 2) 4 = h (h 82 2) 4 ∧ h894 (h 82 2) 9 = h (h 82 2) 9 ∧ h894 (h 82 2) 1 = h (h 82 2) 1 := ⟨(my_fr.at frh894 is_82 rfl).trans q2, (my_fr.at frh894 n_Ln.2.2.2.1 rfl).trans q13, (my_fr.at frh894 n_Ln.2.2.2.1 rfl).trans q14, (my_fr.at frh894 n_Ln.2.2.2.1 rfl).trans q19, (my_fr.at frh894 n_Ln.2.2.2.1 rfl).trans q11⟩
              refine w_goto (t := 140) gz_49_99 rfl ?_
              have psR : h894 82 7 = h894 82 7 := (rfl : h894 82 7 = h894 82 7)
              have npsR : cs h894 = cs h := cs_eq (fun j => my_fr.at gh894 is_92 rfl) (my_fr.at gh894 is_82 rfl)
              have c908 := (rfl : h894 82 9 = h894 82 9)
              exact w_vret gz_49_140 gm_49 (k0 h894 (gh894) (by omega) (by omega) (by first | exact Lo_h894 | exact ⟨st.1, st.2.1, st.2.2.2.2⟩ | exact Or.inl ⟨by omega, zF, st.2.2.1, st.2.2.2.1⟩ | exact Or.inr (Or.inr (Or.inl ⟨by omega, by omega, zC, st.2.2.1, st.2.2.2.1⟩)) | exact Or.inr (Or.inr (Or.inr (Or.inl ⟨by omega, by omega, zW, st.2.2.2.1⟩))) | exact Or.inr (Or.inr (Or.inr (Or.inr (Or.inl ⟨by omega, by omega, zJ, fun _ => st.2.2.1, st.2.2.2.1⟩)))) | exact Or.inr (Or.inr (Or.inr (Or.inr (Or.inr (Or.inl ⟨by omega, by omega, zS, st.2.2.1, st.2.2.2.1⟩))))) | exact ⟨_, _, _, Or.inl ⟨by omega, zF, rfl, rfl⟩⟩ | exact ⟨_, _, _, Or.inr (Or.inr (Or.inl ⟨by omega, by omega, zC, rfl, rfl⟩))⟩ | exact ⟨_, _, _, Or.inr (Or.inr (Or.inr (Or.inl ⟨by omega, by omega, zW, rfl⟩)))⟩ | exact ⟨_, _, _, Or.inr (Or.inr (Or.inr (Or.inr (Or.inl ⟨by omega, by omega, zJ, fun q => absurd q (by omega), rfl⟩))))⟩ | exact ⟨_, _, _, Or.inr (Or.inr (Or.inr (Or.inr (Or.inr (Or.inl ⟨by omega, by omega, zS, rfl, rfl⟩)))))⟩ | exact ⟨0, 0, 0, Or.inr (Or.inl ⟨by omega, by omega, by omega⟩)⟩ | exact ⟨0, 0, 0, Or.inr (Or.inr (Or.inr (Or.inr (Or.inr (Or.inr ⟨by omega, by omega, by omega, by omega, by omega, by omega⟩)))))⟩ | (exfalso; omega) | omega) (by first | exact Lo_h894 | exact ⟨st.1, st.2.1, st.2.2.2.2⟩ | exact Or.inl ⟨by omega, zF, st.2.2.1, st.2.2.2.1⟩ | exact Or.inr (Or.inr (Or.inl ⟨by omega, by omega, zC, st.2.2.1, st.2.2.2.1⟩)) | exact Or.inr (Or.inr (Or.inr (Or.inl ⟨by omega, by omega, zW, st.2.2.2.1⟩))) | exact Or.inr (Or.inr (Or.inr (Or.inr (Or.inl ⟨by omega, by omega, zJ, fun _ => st.2.2.1, st.2.2.2.1⟩)))) | exact Or.inr (Or.inr (Or.inr (Or.inr (Or.inr (Or.inl ⟨by omega, by omega, zS, st.2.2.1, st.2.2.2.1⟩))))) | exact ⟨_, _, _, Or.inl ⟨by omega, zF, rfl, rfl⟩⟩ | exact ⟨_, _, _, Or.inr (Or.inr (Or.inl ⟨by omega, by omega, zC, rfl, rfl⟩))⟩ | exact ⟨_, _, _, Or.inr (Or.inr (Or.inr (Or.inl ⟨by omega, by omega, zW, rfl⟩)))⟩ | exact ⟨_, _, _, Or.inr (Or.inr (Or.inr (Or.inr (Or.inl ⟨by omega, by omega, zJ, fun q => absurd q (by omega), rfl⟩))))⟩ | exact ⟨_, _, _, Or.inr (Or.inr (Or.inr (Or.inr (Or.inr (Or.inl ⟨by omega, by omega, zS, rfl, rfl⟩)))))⟩ | exact ⟨0, 0, 0, Or.inr (Or.inl ⟨by omega, by omega, by omega⟩)⟩ | exact ⟨0, 0, 0, Or.inr (Or.inr (Or.inr (Or.inr (Or.inr (Or.inr ⟨by omega, by omega, by omega, by omega, by omega, by omega⟩)))))⟩ | (exfalso; omega) | omega) Ln_h894 Sp_h894 Al_h894t898 Cu_h894t899)
            ·
              have gh900 : my_fr [(4, 4), (4, 5), (4, 6), (4, 7), (4, 8), (4, 9), (5, 5), (5, 6), (5, 7), (5, 8), (5, 9), (32, -1), (33, -1), (34, -1), (35, -1), (36, -1), (37, -1), (38, -1), (39, -1)] h h900 := my_fr.tr gh883 (frh900.mo rfl)
              have Ln_h900 : Ln h900 := Ln_ag (my_ag.fr frh900 rfl) Ln_h883
              have Sp_h900 : Sp h900 wv := Sp_ag (my_ag.fr frh900 rfl) hwv Ln_h883 Sp_h883
              have Lo_h900 : Lo h h900 := Lo_ag (my_ag.fr frh900 rfl) Ln_h883 Lo_h883
              show wp l rho (d + 7) 49 99 [(2, 82), (0, 1), (0, 0), (0, 0), (0, 0), (0, 0)] [] h900 Q
              have tE909 : cs h883 = cs h := cs_eq (fun j => my_fr.at gh883 is_92 rfl) (my_fr.at gh883 is_82 rfl)
              rw [tE909] at xp902
              have ps910 : h883 82 7 = (sN (cs h) (h 82 7)) := xc891
              rw [ps910] at xp902
              have ck911 := Cu_s Cu_h900t904
              rw [show cs h900 = cs h from cs_eq (fun j => my_fr.at gh900 is_92 rfl) (my_fr.at gh900 is_82 rfl)] at ck911
              have q2 : h883 82 2 = h 82 2 := my_fr.at frh883 is_82 rfl
              have q11 : h883 (h 82 2) 1 = h (h 82 2) 1 := my_fr.at frh883 n_Ln.2.2.2.1 rfl
              have q13 : h883 (h 82 2) 3 = h (h 82 2) 3 := my_fr.at frh883 n_Ln.2.2.2.1 rfl
              have q14 : h883 (h 82 2) 4 = h (h 82 2) 4 := my_fr.at frh883 n_Ln.2.2.2.1 rfl
              have q19 : h883 (h 82 2) 9 = h (h 82 2) 9 := my_fr.at frh883 n_Ln.2.2.2.1 rfl
              have qc : h883 2 = h 2 := funext (fun j => my_fr.at frh883 is_2 rfl)
              have zF := xp902
              simp only [q2, q11, q13, q14, q19, qc] at zF
              have st : h900 82 2 = h 82 2 ∧ h900 (h 82 2) 3 = h (h 82 2) 3 ∧ h900 (h 82 2) 4 = h (h 82 2) 4 ∧ h900 (h 82 2) 9 = h (h 82 2) 9 ∧ h900 (h 82 2) 1 = h (h 82 2) 1 := ⟨(my_fr.at frh900 is_82 rfl).trans q2, (my_fr.at frh900 n_Ln.2.2.2.1 rfl).trans q13, (my_fr.at frh900 n_Ln.2.2.2.1 rfl).trans q14, (my_fr.at frh900 n_Ln.2.2.2.1 rfl).trans q19, (my_fr.at frh900 n_Ln.2.2.2.1 rfl).trans q11⟩
              refine w_goto (t := 140) gz_49_99 rfl ?_
              have psR : h900 82 7 = h900 82 7 := (rfl : h900 82 7 = h900 82 7)
              have npsR : cs h900 = cs h := cs_eq (fun j => my_fr.at gh900 is_92 rfl) (my_fr.at gh900 is_82 rfl)
              have c912 := w901
              exact w_vret gz_49_140 gm_49 (k1 h900 (gh900) (by omega) (by first | exact Lo_h900 | exact ⟨st.1, st.2.1, st.2.2.2.2⟩ | exact Or.inl ⟨by omega, zF, st.2.2.1, st.2.2.2.1⟩ | exact Or.inr (Or.inr (Or.inl ⟨by omega, by omega, zC, st.2.2.1, st.2.2.2.1⟩)) | exact Or.inr (Or.inr (Or.inr (Or.inl ⟨by omega, by omega, zW, st.2.2.2.1⟩))) | exact Or.inr (Or.inr (Or.inr (Or.inr (Or.inl ⟨by omega, by omega, zJ, fun _ => st.2.2.1, st.2.2.2.1⟩)))) | exact Or.inr (Or.inr (Or.inr (Or.inr (Or.inr (Or.inl ⟨by omega, by omega, zS, st.2.2.1, st.2.2.2.1⟩))))) | exact ⟨_, _, _, Or.inl ⟨by omega, zF, rfl, rfl⟩⟩ | exact ⟨_, _, _, Or.inr (Or.inr (Or.inl ⟨by omega, by omega, zC, rfl, rfl⟩))⟩ | exact ⟨_, _, _, Or.inr (Or.inr (Or.inr (Or.inl ⟨by omega, by omega, zW, rfl⟩)))⟩ | exact ⟨_, _, _, Or.inr (Or.inr (Or.inr (Or.inr (Or.inl ⟨by omega, by omega, zJ, fun q => absurd q (by omega), rfl⟩))))⟩ | exact ⟨_, _, _, Or.inr (Or.inr (Or.inr (Or.inr (Or.inr (Or.inl ⟨by omega, by omega, zS, rfl, rfl⟩)))))⟩ | exact ⟨0, 0, 0, Or.inr (Or.inl ⟨by omega, by omega, by omega⟩)⟩ | exact ⟨0, 0, 0, Or.inr (Or.inr (Or.inr (Or.inr (Or.inr (Or.inr ⟨by omega, by omega, by omega, by omega, by omega, by omega⟩)))))⟩ | (exfalso; omega) | omega) (by first | exact Lo_h900 | exact ⟨st.1, st.2.1, st.2.2.2.2⟩ | exact Or.inl ⟨by omega, zF, st.2.2.1, st.2.2.2.1⟩ | exact Or.inr (Or.inr (Or.inl ⟨by omega, by omega, zC, st.2.2.1, st.2.2.2.1⟩)) | exact Or.inr (Or.inr (Or.inr (Or.inl ⟨by omega, by omega, zW, st.2.2.2.1⟩))) | exact Or.inr (Or.inr (Or.inr (Or.inr (Or.inl ⟨by omega, by omega, zJ, fun _ => st.2.2.1, st.2.2.2.1⟩)))) | exact Or.inr (Or.inr (Or.inr (Or.inr (Or.inr (Or.inl ⟨by omega, by omega, zS, st.2.2.1, st.2.2.2.1⟩))))) | exact ⟨_, _, _, Or.inl ⟨by omega, zF, rfl, rfl⟩⟩ | exact ⟨_, _, _, Or.inr (Or.inr (Or.inl ⟨by omega, by omega, zC, rfl, rfl⟩))⟩ | exact ⟨_, _, _, Or.inr (Or.inr (Or.inr (Or.inl ⟨by omega, by omega, zW, rfl⟩)))⟩ | exact ⟨_, _, _, Or.inr (Or.inr (Or.inr (Or.inr (Or.inl ⟨by omega, by omega, zJ, fun q => absurd q (by omega), rfl⟩))))⟩ | exact ⟨_, _, _, Or.inr (Or.inr (Or.inr (Or.inr (Or.inr (Or.inl ⟨by omega, by omega, zS, rfl, rfl⟩)))))⟩ | exact ⟨0, 0, 0, Or.inr (Or.inl ⟨by omega, by omega, by omega⟩)⟩ | exact ⟨0, 0, 0, Or.inr (Or.inr (Or.inr (Or.inr (Or.inr (Or.inr ⟨by omega, by omega, by omega, by omega, by omega, by omega⟩)))))⟩ | (exfalso; omega) | omega) (by first | exact Lo_h900 | exact ⟨st.1, st.2.1, st.2.2.2.2⟩ | exact Or.inl ⟨by omega, zF, st.2.2.1, st.2.2.2.1⟩ | exact Or.inr (Or.inr (Or.inl ⟨by omega, by omega, zC, st.2.2.1, st.2.2.2.1⟩)) | exact Or.inr (Or.inr (Or.inr (Or.inl ⟨by omega, by omega, zW, st.2.2.2.1⟩))) | exact Or.inr (Or.inr (Or.inr (Or.inr (Or.inl ⟨by omega, by omega, zJ, fun _ => st.2.2.1, st.2.2.2.1⟩)))) | exact Or.inr (Or.inr (Or.inr (Or.inr (Or.inr (Or.inl ⟨by omega, by omega, zS, st.2.2.1, st.2.2.2.1⟩))))) | exact ⟨_, _, _, Or.inl ⟨by omega, zF, rfl, rfl⟩⟩ | exact ⟨_, _, _, Or.inr (Or.inr (Or.inl ⟨by omega, by omega, zC, rfl, rfl⟩))⟩ | exact ⟨_, _, _, Or.inr (Or.inr (Or.inr (Or.inl ⟨by omega, by omega, zW, rfl⟩)))⟩ | exact ⟨_, _, _, Or.inr (Or.inr (Or.inr (Or.inr (Or.inl ⟨by omega, by omega, zJ, fun q => absurd q (by omega), rfl⟩))))⟩ | exact ⟨_, _, _, Or.inr (Or.inr (Or.inr (Or.inr (Or.inr (Or.inl ⟨by omega, by omega, zS, rfl, rfl⟩)))))⟩ | exact ⟨0, 0, 0, Or.inr (Or.inl ⟨by omega, by omega, by omega⟩)⟩ | exact ⟨0, 0, 0, Or.inr (Or.inr (Or.inr (Or.inr (Or.inr (Or.inr ⟨by omega, by omega, by omega, by omega, by omega, by omega⟩)))))⟩ | (exfalso; omega) | omega) Ln_h900 Sp_h900 Al_h900t903 Cu_h900t904)
          ·
            show wp l rho (d + 7) 49 35 [(2, 82), (0, 1), (0, 0), (0, 0), (0, 0), (9, 0)] [(0, 1)] h Q
            rw [show wc ((8 : Nat) : Int) = 26801 from by decide] at xp880
            refine w_istore (ls' := [(2, 82), (0, 1), (0, 0), (0, 0), (0, 0), (0, 1)]) gz_49_35 gm_49 rfl rfl rfl ?_
            refine w_iload_n gz_49_37 rfl ?_
            refine w_ifne (t := 65) gz_49_38 rfl (fun u913 => ?_) (fun u913 => by exfalso; omega)
            refine w_iload_n gz_49_65 rfl ?_
            refine w_ifne (t := 87) gz_49_66 rfl (fun u914 => ?_) (fun u914 => by exfalso; omega)
            refine w_aload_n gz_49_87 rfl ?_
            refine w_inv (k := 2) (as := []) (r := []) (x := 82) (ls0 := [(2, 82), (9, 0), (9, 0)]) gz_49_88 gm_37 rfl is_82 rd_5 rfl rfl rfl rfl rfl (c_Reader_nextToken9_f0 (d := (d + 5))  (cf.trans (by omega)) n_Al (fun h915 frh915 w916 w917 w918 xp919 xp920 Al_h915t921 Cu_h915t922 => ?_))
            have gh915 : my_fr [(4, 4), (4, 5), (4, 6), (4, 7), (4, 8), (4, 9), (5, 5), (5, 6), (5, 7), (5, 8), (5, 9), (32, -1), (33, -1), (34, -1), (35, -1), (36, -1), (37, -1), (38, -1), (39, -1)] h h915 := my_fr.tr my_fr.rf (frh915.mo rfl)
            have Ln_h915 : Ln h915 := Ln_ag (my_ag.fr frh915 rfl) n_Ln
            have Sp_h915 : Sp h915 wv := Sp_ag (my_ag.fr frh915 rfl) hwv n_Ln n_Sp
            have Lo_h915 : Lo h h915 := Lo_ag (my_ag.fr frh915 rfl) n_Ln (Lo_rf)
            show wp l rho (d + 7) 49 91 [(2, 82), (0, 1), (0, 0), (0, 0), (0, 0), (0, 1)] [] h915 Q
            have xc923 := xp919 n_Cu
            have ck924 := Cu_s Cu_h915t922
            rw [show cs h915 = cs h from cs_eq (fun j => my_fr.at gh915 is_92 rfl) (my_fr.at gh915 is_82 rfl)] at ck924
            rw [show h915 82 7 = (sN (cs h) (h 82 7)) from xc923] at ck924
            refine w_iload_n gz_49_91 rfl ?_
            refine w_ifeq (t := 102) gz_49_92 rfl (fun u925 => by exfalso; omega) (fun u925 => ?_)
            refine w_aload_n gz_49_95 rfl ?_
            refine w_inv (k := 2) (as := []) (r := []) (x := 82) (ls0 := [(2, 82), (9, 0), (9, 0)]) gz_49_96 gm_50 rfl is_82 rd_5 rfl rfl rfl rfl rfl (c_Reader_readFill9_f0 (d := (d + 3))  (((my_fr.at frh915 is_82 rfl).trans cf).trans (by omega)) Al_h915t921 Cu_h915t922 (fun h926 frh926 w927 w928 xp929 Al_h926t930 Cu_h926t931 => ?_) (fun h932 frh932 w933 xp934 Al_h932t935 Cu_h932t936 => ?_))
            ·
              have gh926 : my_fr [(4, 4), (4, 5), (4, 6), (4, 7), (4, 8), (4, 9), (5, 5), (5, 6), (5, 7), (5, 8), (5, 9), (32, -1), (33, -1), (34, -1), (35, -1), (36, -1), (37, -1), (38, -1), (39, -1)] h h926 := my_fr.tr gh915 (frh926.mo rfl)
              have Ln_h926 : Ln h926 := Ln_ag (my_ag.fr frh926 rfl) Ln_h915
              have Sp_h926 : Sp h926 wv := Sp_ag (my_ag.fr frh926 rfl) hwv Ln_h915 Sp_h915
              have Lo_h926 : Lo h h926 := Lo_ag (my_ag.fr frh926 rfl) Ln_h915 Lo_h915
              show wp l rho (d + 7) 49 99 [(2, 82), (0, 1), (0, 0), (0, 0), (0, 0), (0, 1)] [] h926 Q
              have tE937 : cs h915 = cs h := cs_eq (fun j => my_fr.at gh915 is_92 rfl) (my_fr.at gh915 is_82 rfl)
              rw [tE937] at xp929
              have ps938 : h915 82 7 = (sN (cs h) (h 82 7)) := xc923
              rw [ps938] at xp929
              have ck939 := Cu_s Cu_h926t931
              rw [show cs h926 = cs h from cs_eq (fun j => my_fr.at gh926 is_92 rfl) (my_fr.at gh926 is_82 rfl)] at ck939
              have q2 : h915 82 2 = h 82 2 := my_fr.at frh915 is_82 rfl
              have q11 : h915 (h 82 2) 1 = h (h 82 2) 1 := my_fr.at frh915 n_Ln.2.2.2.1 rfl
              have q13 : h915 (h 82 2) 3 = h (h 82 2) 3 := my_fr.at frh915 n_Ln.2.2.2.1 rfl
              have q14 : h915 (h 82 2) 4 = h (h 82 2) 4 := my_fr.at frh915 n_Ln.2.2.2.1 rfl
              have q19 : h915 (h 82 2) 9 = h (h 82 2) 9 := my_fr.at frh915 n_Ln.2.2.2.1 rfl
              have qc : h915 2 = h 2 := funext (fun j => my_fr.at frh915 is_2 rfl)
              have zF := xp929
              simp only [q2, q11, q13, q14, q19, qc] at zF
              have st : h926 82 2 = h 82 2 ∧ h926 (h 82 2) 3 = h (h 82 2) 3 ∧ h926 (h 82 2) 4 = h (h 82 2) 4 ∧ h926 (h 82 2) 9 = h (h 82 2) 9 ∧ h926 (h 82 2) 1 = h (h 82 2) 1 := ⟨(my_fr.at frh926 is_82 rfl).trans q2, (my_fr.at frh926 n_Ln.2.2.2.1 rfl).trans q13, (my_fr.at frh926 n_Ln.2.2.2.1 rfl).trans q14, (my_fr.at frh926 n_Ln.2.2.2.1 rfl).trans q19, (my_fr.at frh926 n_Ln.2.2.2.1 rfl).trans q11⟩
              refine w_goto (t := 140) gz_49_99 rfl ?_
              have psR : h926 82 7 = h926 82 7 := (rfl : h926 82 7 = h926 82 7)
              have npsR : cs h926 = cs h := cs_eq (fun j => my_fr.at gh926 is_92 rfl) (my_fr.at gh926 is_82 rfl)
              have c940 := (rfl : h926 82 9 = h926 82 9)
              exact w_vret gz_49_140 gm_49 (k0 h926 (gh926) (by omega) (by omega) (by first | exact Lo_h926 | exact ⟨st.1, st.2.1, st.2.2.2.2⟩ | exact Or.inl ⟨by omega, zF, st.2.2.1, st.2.2.2.1⟩ | exact Or.inr (Or.inr (Or.inl ⟨by omega, by omega, zC, st.2.2.1, st.2.2.2.1⟩)) | exact Or.inr (Or.inr (Or.inr (Or.inl ⟨by omega, by omega, zW, st.2.2.2.1⟩))) | exact Or.inr (Or.inr (Or.inr (Or.inr (Or.inl ⟨by omega, by omega, zJ, fun _ => st.2.2.1, st.2.2.2.1⟩)))) | exact Or.inr (Or.inr (Or.inr (Or.inr (Or.inr (Or.inl ⟨by omega, by omega, zS, st.2.2.1, st.2.2.2.1⟩))))) | exact ⟨_, _, _, Or.inl ⟨by omega, zF, rfl, rfl⟩⟩ | exact ⟨_, _, _, Or.inr (Or.inr (Or.inl ⟨by omega, by omega, zC, rfl, rfl⟩))⟩ | exact ⟨_, _, _, Or.inr (Or.inr (Or.inr (Or.inl ⟨by omega, by omega, zW, rfl⟩)))⟩ | exact ⟨_, _, _, Or.inr (Or.inr (Or.inr (Or.inr (Or.inl ⟨by omega, by omega, zJ, fun q => absurd q (by omega), rfl⟩))))⟩ | exact ⟨_, _, _, Or.inr (Or.inr (Or.inr (Or.inr (Or.inr (Or.inl ⟨by omega, by omega, zS, rfl, rfl⟩)))))⟩ | exact ⟨0, 0, 0, Or.inr (Or.inl ⟨by omega, by omega, by omega⟩)⟩ | exact ⟨0, 0, 0, Or.inr (Or.inr (Or.inr (Or.inr (Or.inr (Or.inr ⟨by omega, by omega, by omega, by omega, by omega, by omega⟩)))))⟩ | (exfalso; omega) | omega) (by first | exact Lo_h926 | exact ⟨st.1, st.2.1, st.2.2.2.2⟩ | exact Or.inl ⟨by omega, zF, st.2.2.1, st.2.2.2.1⟩ | exact Or.inr (Or.inr (Or.inl ⟨by omega, by omega, zC, st.2.2.1, st.2.2.2.1⟩)) | exact Or.inr (Or.inr (Or.inr (Or.inl ⟨by omega, by omega, zW, st.2.2.2.1⟩))) | exact Or.inr (Or.inr (Or.inr (Or.inr (Or.inl ⟨by omega, by omega, zJ, fun _ => st.2.2.1, st.2.2.2.1⟩)))) | exact Or.inr (Or.inr (Or.inr (Or.inr (Or.inr (Or.inl ⟨by omega, by omega, zS, st.2.2.1, st.2.2.2.1⟩))))) | exact ⟨_, _, _, Or.inl ⟨by omega, zF, rfl, rfl⟩⟩ | exact ⟨_, _, _, Or.inr (Or.inr (Or.inl ⟨by omega, by omega, zC, rfl, rfl⟩))⟩ | exact ⟨_, _, _, Or.inr (Or.inr (Or.inr (Or.inl ⟨by omega, by omega, zW, rfl⟩)))⟩ | exact ⟨_, _, _, Or.inr (Or.inr (Or.inr (Or.inr (Or.inl ⟨by omega, by omega, zJ, fun q => absurd q (by omega), rfl⟩))))⟩ | exact ⟨_, _, _, Or.inr (Or.inr (Or.inr (Or.inr (Or.inr (Or.inl ⟨by omega, by omega, zS, rfl, rfl⟩)))))⟩ | exact ⟨0, 0, 0, Or.inr (Or.inl ⟨by omega, by omega, by omega⟩)⟩ | exact ⟨0, 0, 0, Or.inr (Or.inr (Or.inr (Or.inr (Or.inr (Or.inr ⟨by omega, by omega, by omega, by omega, by omega, by omega⟩)))))⟩ | (exfalso; omega) | omega) Ln_h926 Sp_h926 Al_h926t930 Cu_h926t931)
            ·
              have gh932 : my_fr [(4, 4), (4, 5), (4, 6), (4, 7), (4, 8), (4, 9), (5, 5), (5, 6), (5, 7), (5, 8), (5, 9), (32, -1), (33, -1), (34, -1), (35, -1), (36, -1), (37, -1), (38, -1), (39, -1)] h h932 := my_fr.tr gh915 (frh932.mo rfl)
              have Ln_h932 : Ln h932 := Ln_ag (my_ag.fr frh932 rfl) Ln_h915
              have Sp_h932 : Sp h932 wv := Sp_ag (my_ag.fr frh932 rfl) hwv Ln_h915 Sp_h915
              have Lo_h932 : Lo h h932 := Lo_ag (my_ag.fr frh932 rfl) Ln_h915 Lo_h915
              show wp l rho (d + 7) 49 99 [(2, 82), (0, 1), (0, 0), (0, 0), (0, 0), (0, 1)] [] h932 Q
              have tE941 : cs h915 = cs h := cs_eq (fun j => my_fr.at gh915 is_92 rfl) (my_fr.at gh915 is_82 rfl)
              rw [tE941] at xp934
              have ps942 : h915 82 7 = (sN (cs h) (h 82 7)) := xc923
              rw [ps942] at xp934
              have ck943 := Cu_s Cu_h932t936
              rw [show cs h932 = cs h from cs_eq (fun j => my_fr.at gh932 is_92 rfl) (my_fr.at gh932 is_82 rfl)] at ck943
              have q2 : h915 82 2 = h 82 2 := my_fr.at frh915 is_82 rfl
              have q11 : h915 (h 82 2) 1 = h (h 82 2) 1 := my_fr.at frh915 n_Ln.2.2.2.1 rfl
              have q13 : h915 (h 82 2) 3 = h (h 82 2) 3 := my_fr.at frh915 n_Ln.2.2.2.1 rfl
              have q14 : h915 (h 82 2) 4 = h (h 82 2) 4 := my_fr.at frh915 n_Ln.2.2.2.1 rfl
              have q19 : h915 (h 82 2) 9 = h (h 82 2) 9 := my_fr.at frh915 n_Ln.2.2.2.1 rfl
              have qc : h915 2 = h 2 := funext (fun j => my_fr.at frh915 is_2 rfl)
              have zF := xp934
              simp only [q2, q11, q13, q14, q19, qc] at zF
              have st : h932 82 2 = h 82 2 ∧ h932 (h 82 2) 3 = h (h 82 2) 3 ∧ h932 (h 82 2) 4 = h (h 82 2) 4 ∧ h932 (h 82 2) 9 = h (h 82 2) 9 ∧ h932 (h 82 2) 1 = h (h 82 2) 1 := ⟨(my_fr.at frh932 is_82 rfl).trans q2, (my_fr.at frh932 n_Ln.2.2.2.1 rfl).trans q13, (my_fr.at frh932 n_Ln.2.2.2.1 rfl).trans q14, (my_fr.at frh932 n_Ln.2.2.2.1 rfl).trans q19, (my_fr.at frh932 n_Ln.2.2.2.1 rfl).trans q11⟩
              refine w_goto (t := 140) gz_49_99 rfl ?_
              have psR : h932 82 7 = h932 82 7 := (rfl : h932 82 7 = h932 82 7)
              have npsR : cs h932 = cs h := cs_eq (fun j => my_fr.at gh932 is_92 rfl) (my_fr.at gh932 is_82 rfl)
              have c944 := w933
              exact w_vret gz_49_140 gm_49 (k1 h932 (gh932) (by omega) (by first | exact Lo_h932 | exact ⟨st.1, st.2.1, st.2.2.2.2⟩ | exact Or.inl ⟨by omega, zF, st.2.2.1, st.2.2.2.1⟩ | exact Or.inr (Or.inr (Or.inl ⟨by omega, by omega, zC, st.2.2.1, st.2.2.2.1⟩)) | exact Or.inr (Or.inr (Or.inr (Or.inl ⟨by omega, by omega, zW, st.2.2.2.1⟩))) | exact Or.inr (Or.inr (Or.inr (Or.inr (Or.inl ⟨by omega, by omega, zJ, fun _ => st.2.2.1, st.2.2.2.1⟩)))) | exact Or.inr (Or.inr (Or.inr (Or.inr (Or.inr (Or.inl ⟨by omega, by omega, zS, st.2.2.1, st.2.2.2.1⟩))))) | exact ⟨_, _, _, Or.inl ⟨by omega, zF, rfl, rfl⟩⟩ | exact ⟨_, _, _, Or.inr (Or.inr (Or.inl ⟨by omega, by omega, zC, rfl, rfl⟩))⟩ | exact ⟨_, _, _, Or.inr (Or.inr (Or.inr (Or.inl ⟨by omega, by omega, zW, rfl⟩)))⟩ | exact ⟨_, _, _, Or.inr (Or.inr (Or.inr (Or.inr (Or.inl ⟨by omega, by omega, zJ, fun q => absurd q (by omega), rfl⟩))))⟩ | exact ⟨_, _, _, Or.inr (Or.inr (Or.inr (Or.inr (Or.inr (Or.inl ⟨by omega, by omega, zS, rfl, rfl⟩)))))⟩ | exact ⟨0, 0, 0, Or.inr (Or.inl ⟨by omega, by omega, by omega⟩)⟩ | exact ⟨0, 0, 0, Or.inr (Or.inr (Or.inr (Or.inr (Or.inr (Or.inr ⟨by omega, by omega, by omega, by omega, by omega, by omega⟩)))))⟩ | (exfalso; omega) | omega) (by first | exact Lo_h932 | exact ⟨st.1, st.2.1, st.2.2.2.2⟩ | exact Or.inl ⟨by omega, zF, st.2.2.1, st.2.2.2.1⟩ | exact Or.inr (Or.inr (Or.inl ⟨by omega, by omega, zC, st.2.2.1, st.2.2.2.1⟩)) | exact Or.inr (Or.inr (Or.inr (Or.inl ⟨by omega, by omega, zW, st.2.2.2.1⟩))) | exact Or.inr (Or.inr (Or.inr (Or.inr (Or.inl ⟨by omega, by omega, zJ, fun _ => st.2.2.1, st.2.2.2.1⟩)))) | exact Or.inr (Or.inr (Or.inr (Or.inr (Or.inr (Or.inl ⟨by omega, by omega, zS, st.2.2.1, st.2.2.2.1⟩))))) | exact ⟨_, _, _, Or.inl ⟨by omega, zF, rfl, rfl⟩⟩ | exact ⟨_, _, _, Or.inr (Or.inr (Or.inl ⟨by omega, by omega, zC, rfl, rfl⟩))⟩ | exact ⟨_, _, _, Or.inr (Or.inr (Or.inr (Or.inl ⟨by omega, by omega, zW, rfl⟩)))⟩ | exact ⟨_, _, _, Or.inr (Or.inr (Or.inr (Or.inr (Or.inl ⟨by omega, by omega, zJ, fun q => absurd q (by omega), rfl⟩))))⟩ | exact ⟨_, _, _, Or.inr (Or.inr (Or.inr (Or.inr (Or.inr (Or.inl ⟨by omega, by omega, zS, rfl, rfl⟩)))))⟩ | exact ⟨0, 0, 0, Or.inr (Or.inl ⟨by omega, by omega, by omega⟩)⟩ | exact ⟨0, 0, 0, Or.inr (Or.inr (Or.inr (Or.inr (Or.inr (Or.inr ⟨by omega, by omega, by omega, by omega, by omega, by omega⟩)))))⟩ | (exfalso; omega) | omega) (by first | exact Lo_h932 | exact ⟨st.1, st.2.1, st.2.2.2.2⟩ | exact Or.inl ⟨by omega, zF, st.2.2.1, st.2.2.2.1⟩ | exact Or.inr (Or.inr (Or.inl ⟨by omega, by omega, zC, st.2.2.1, st.2.2.2.1⟩)) | exact Or.inr (Or.inr (Or.inr (Or.inl ⟨by omega, by omega, zW, st.2.2.2.1⟩))) | exact Or.inr (Or.inr (Or.inr (Or.inr (Or.inl ⟨by omega, by omega, zJ, fun _ => st.2.2.1, st.2.2.2.1⟩)))) | exact Or.inr (Or.inr (Or.inr (Or.inr (Or.inr (Or.inl ⟨by omega, by omega, zS, st.2.2.1, st.2.2.2.1⟩))))) | exact ⟨_, _, _, Or.inl ⟨by omega, zF, rfl, rfl⟩⟩ | exact ⟨_, _, _, Or.inr (Or.inr (Or.inl ⟨by omega, by omega, zC, rfl, rfl⟩))⟩ | exact ⟨_, _, _, Or.inr (Or.inr (Or.inr (Or.inl ⟨by omega, by omega, zW, rfl⟩)))⟩ | exact ⟨_, _, _, Or.inr (Or.inr (Or.inr (Or.inr (Or.inl ⟨by omega, by omega, zJ, fun q => absurd q (by omega), rfl⟩))))⟩ | exact ⟨_, _, _, Or.inr (Or.inr (Or.inr (Or.inr (Or.inr (Or.inl ⟨by omega, by omega, zS, rfl, rfl⟩)))))⟩ | exact ⟨0, 0, 0, Or.inr (Or.inl ⟨by omega, by omega, by omega⟩)⟩ | exact ⟨0, 0, 0, Or.inr (Or.inr (Or.inr (Or.inr (Or.inr (Or.inr ⟨by omega, by omega, by omega, by omega, by omega, by omega⟩)))))⟩ | (exfalso; omega) | omega) Ln_h932 Sp_h932 Al_h932t935 Cu_h932t936)
        ·
          show wp l rho (d + 7) 49 27 [(2, 82), (0, 1), (0, 0), (0, 0), (9, 0), (9, 0)] [(0, 1)] h Q
          rw [show wc ((7 : Nat) : Int) = 527412 from by decide] at xp875
          refine w_istore (ls' := [(2, 82), (0, 1), (0, 0), (0, 0), (0, 1), (9, 0)]) gz_49_27 gm_49 rfl rfl rfl ?_
          refine w_aload_n gz_49_29 rfl ?_
          refine w_ldcS gz_49_30 (by decide) ?_
          refine w_inv (k := 1) (as := [(3, ((8 : Nat) : Int))]) (r := []) (x := 82) (ls0 := [(2, 82), (3, ((8 : Nat) : Int)), (9, 0)]) gz_49_32 gm_41 rfl is_82 rd_5 rfl rfl rfl rfl rfl (c_Reader_isWord9_f0 (d := (d + 2)) (x1 := ((8 : Nat) : Int)) (by decide) (cf.trans (by omega)) n_Cu (fun w945 xp946 => ?_) (fun w947 w948 xp949 => ?_))
          ·
            show wp l rho (d + 7) 49 35 [(2, 82), (0, 1), (0, 0), (0, 0), (0, 1), (9, 0)] [(0, 0)] h Q
            rw [show wc ((8 : Nat) : Int) = 26801 from by decide] at xp946
            refine w_istore (ls' := [(2, 82), (0, 1), (0, 0), (0, 0), (0, 1), (0, 0)]) gz_49_35 gm_49 rfl rfl rfl ?_
            refine w_iload_n gz_49_37 rfl ?_
            refine w_ifne (t := 65) gz_49_38 rfl (fun u950 => ?_) (fun u950 => by exfalso; omega)
            refine w_iload_n gz_49_65 rfl ?_
            refine w_ifne (t := 87) gz_49_66 rfl (fun u951 => ?_) (fun u951 => by exfalso; omega)
            refine w_aload_n gz_49_87 rfl ?_
            refine w_inv (k := 2) (as := []) (r := []) (x := 82) (ls0 := [(2, 82), (9, 0), (9, 0)]) gz_49_88 gm_37 rfl is_82 rd_5 rfl rfl rfl rfl rfl (c_Reader_nextToken9_f0 (d := (d + 5))  (cf.trans (by omega)) n_Al (fun h952 frh952 w953 w954 w955 xp956 xp957 Al_h952t958 Cu_h952t959 => ?_))
            have gh952 : my_fr [(4, 4), (4, 5), (4, 6), (4, 7), (4, 8), (4, 9), (5, 5), (5, 6), (5, 7), (5, 8), (5, 9), (32, -1), (33, -1), (34, -1), (35, -1), (36, -1), (37, -1), (38, -1), (39, -1)] h h952 := my_fr.tr my_fr.rf (frh952.mo rfl)
            have Ln_h952 : Ln h952 := Ln_ag (my_ag.fr frh952 rfl) n_Ln
            have Sp_h952 : Sp h952 wv := Sp_ag (my_ag.fr frh952 rfl) hwv n_Ln n_Sp
            have Lo_h952 : Lo h h952 := Lo_ag (my_ag.fr frh952 rfl) n_Ln (Lo_rf)
            show wp l rho (d + 7) 49 91 [(2, 82), (0, 1), (0, 0), (0, 0), (0, 1), (0, 0)] [] h952 Q
            have xc960 := xp956 n_Cu
            have ck961 := Cu_s Cu_h952t959
            rw [show cs h952 = cs h from cs_eq (fun j => my_fr.at gh952 is_92 rfl) (my_fr.at gh952 is_82 rfl)] at ck961
            rw [show h952 82 7 = (sN (cs h) (h 82 7)) from xc960] at ck961
            refine w_iload_n gz_49_91 rfl ?_
            refine w_ifeq (t := 102) gz_49_92 rfl (fun u962 => by exfalso; omega) (fun u962 => ?_)
            refine w_aload_n gz_49_95 rfl ?_
            refine w_inv (k := 2) (as := []) (r := []) (x := 82) (ls0 := [(2, 82), (9, 0), (9, 0)]) gz_49_96 gm_50 rfl is_82 rd_5 rfl rfl rfl rfl rfl (c_Reader_readFill9_f0 (d := (d + 3))  (((my_fr.at frh952 is_82 rfl).trans cf).trans (by omega)) Al_h952t958 Cu_h952t959 (fun h963 frh963 w964 w965 xp966 Al_h963t967 Cu_h963t968 => ?_) (fun h969 frh969 w970 xp971 Al_h969t972 Cu_h969t973 => ?_))
            ·
              have gh963 : my_fr [(4, 4), (4, 5), (4, 6), (4, 7), (4, 8), (4, 9), (5, 5), (5, 6), (5, 7), (5, 8), (5, 9), (32, -1), (33, -1), (34, -1), (35, -1), (36, -1), (37, -1), (38, -1), (39, -1)] h h963 := my_fr.tr gh952 (frh963.mo rfl)
              have Ln_h963 : Ln h963 := Ln_ag (my_ag.fr frh963 rfl) Ln_h952
              have Sp_h963 : Sp h963 wv := Sp_ag (my_ag.fr frh963 rfl) hwv Ln_h952 Sp_h952
              have Lo_h963 : Lo h h963 := Lo_ag (my_ag.fr frh963 rfl) Ln_h952 Lo_h952
              show wp l rho (d + 7) 49 99 [(2, 82), (0, 1), (0, 0), (0, 0), (0, 1), (0, 0)] [] h963 Q
              have tE974 : cs h952 = cs h := cs_eq (fun j => my_fr.at gh952 is_92 rfl) (my_fr.at gh952 is_82 rfl)
              rw [tE974] at xp966
              have ps975 : h952 82 7 = (sN (cs h) (h 82 7)) := xc960
              rw [ps975] at xp966
              have ck976 := Cu_s Cu_h963t968
              rw [show cs h963 = cs h from cs_eq (fun j => my_fr.at gh963 is_92 rfl) (my_fr.at gh963 is_82 rfl)] at ck976
              have q2 : h952 82 2 = h 82 2 := my_fr.at frh952 is_82 rfl
              have q11 : h952 (h 82 2) 1 = h (h 82 2) 1 := my_fr.at frh952 n_Ln.2.2.2.1 rfl
              have q13 : h952 (h 82 2) 3 = h (h 82 2) 3 := my_fr.at frh952 n_Ln.2.2.2.1 rfl
              have q14 : h952 (h 82 2) 4 = h (h 82 2) 4 := my_fr.at frh952 n_Ln.2.2.2.1 rfl
              have q19 : h952 (h 82 2) 9 = h (h 82 2) 9 := my_fr.at frh952 n_Ln.2.2.2.1 rfl
              have qc : h952 2 = h 2 := funext (fun j => my_fr.at frh952 is_2 rfl)
              have zF := xp966
              simp only [q2, q11, q13, q14, q19, qc] at zF
              have st : h963 82 2 = h 82 2 ∧ h963 (h 82 2) 3 = h (h 82 2) 3 ∧ h963 (h 82 2) 4 = h (h 82 2) 4 ∧ h963 (h 82 2) 9 = h (h 82 2) 9 ∧ h963 (h 82 2) 1 = h (h 82 2) 1 := ⟨(my_fr.at frh963 is_82 rfl).trans q2, (my_fr.at frh963 n_Ln.2.2.2.1 rfl).trans q13, (my_fr.at frh963 n_Ln.2.2.2.1 rfl).trans q14, (my_fr.at frh963 n_Ln.2.2.2.1 rfl).trans q19, (my_fr.at frh963 n_Ln.2.2.2.1 rfl).trans q11⟩
              refine w_goto (t := 140) gz_49_99 rfl ?_
              have psR : h963 82 7 = h963 82 7 := (rfl : h963 82 7 = h963 82 7)
              have npsR : cs h963 = cs h := cs_eq (fun j => my_fr.at gh963 is_92 rfl) (my_fr.at gh963 is_82 rfl)
              have c977 := (rfl : h963 82 9 = h963 82 9)
              exact w_vret gz_49_140 gm_49 (k0 h963 (gh963) (by omega) (by omega) (by first | exact Lo_h963 | exact ⟨st.1, st.2.1, st.2.2.2.2⟩ | exact Or.inl ⟨by omega, zF, st.2.2.1, st.2.2.2.1⟩ | exact Or.inr (Or.inr (Or.inl ⟨by omega, by omega, zC, st.2.2.1, st.2.2.2.1⟩)) | exact Or.inr (Or.inr (Or.inr (Or.inl ⟨by omega, by omega, zW, st.2.2.2.1⟩))) | exact Or.inr (Or.inr (Or.inr (Or.inr (Or.inl ⟨by omega, by omega, zJ, fun _ => st.2.2.1, st.2.2.2.1⟩)))) | exact Or.inr (Or.inr (Or.inr (Or.inr (Or.inr (Or.inl ⟨by omega, by omega, zS, st.2.2.1, st.2.2.2.1⟩))))) | exact ⟨_, _, _, Or.inl ⟨by omega, zF, rfl, rfl⟩⟩ | exact ⟨_, _, _, Or.inr (Or.inr (Or.inl ⟨by omega, by omega, zC, rfl, rfl⟩))⟩ | exact ⟨_, _, _, Or.inr (Or.inr (Or.inr (Or.inl ⟨by omega, by omega, zW, rfl⟩)))⟩ | exact ⟨_, _, _, Or.inr (Or.inr (Or.inr (Or.inr (Or.inl ⟨by omega, by omega, zJ, fun q => absurd q (by omega), rfl⟩))))⟩ | exact ⟨_, _, _, Or.inr (Or.inr (Or.inr (Or.inr (Or.inr (Or.inl ⟨by omega, by omega, zS, rfl, rfl⟩)))))⟩ | exact ⟨0, 0, 0, Or.inr (Or.inl ⟨by omega, by omega, by omega⟩)⟩ | exact ⟨0, 0, 0, Or.inr (Or.inr (Or.inr (Or.inr (Or.inr (Or.inr ⟨by omega, by omega, by omega, by omega, by omega, by omega⟩)))))⟩ | (exfalso; omega) | omega) (by first | exact Lo_h963 | exact ⟨st.1, st.2.1, st.2.2.2.2⟩ | exact Or.inl ⟨by omega, zF, st.2.2.1, st.2.2.2.1⟩ | exact Or.inr (Or.inr (Or.inl ⟨by omega, by omega, zC, st.2.2.1, st.2.2.2.1⟩)) | exact Or.inr (Or.inr (Or.inr (Or.inl ⟨by omega, by omega, zW, st.2.2.2.1⟩))) | exact Or.inr (Or.inr (Or.inr (Or.inr (Or.inl ⟨by omega, by omega, zJ, fun _ => st.2.2.1, st.2.2.2.1⟩)))) | exact Or.inr (Or.inr (Or.inr (Or.inr (Or.inr (Or.inl ⟨by omega, by omega, zS, st.2.2.1, st.2.2.2.1⟩))))) | exact ⟨_, _, _, Or.inl ⟨by omega, zF, rfl, rfl⟩⟩ | exact ⟨_, _, _, Or.inr (Or.inr (Or.inl ⟨by omega, by omega, zC, rfl, rfl⟩))⟩ | exact ⟨_, _, _, Or.inr (Or.inr (Or.inr (Or.inl ⟨by omega, by omega, zW, rfl⟩)))⟩ | exact ⟨_, _, _, Or.inr (Or.inr (Or.inr (Or.inr (Or.inl ⟨by omega, by omega, zJ, fun q => absurd q (by omega), rfl⟩))))⟩ | exact ⟨_, _, _, Or.inr (Or.inr (Or.inr (Or.inr (Or.inr (Or.inl ⟨by omega, by omega, zS, rfl, rfl⟩)))))⟩ | exact ⟨0, 0, 0, Or.inr (Or.inl ⟨by omega, by omega, by omega⟩)⟩ | exact ⟨0, 0, 0, Or.inr (Or.inr (Or.inr (Or.inr (Or.inr (Or.inr ⟨by omega, by omega, by omega, by omega, by omega, by omega⟩)))))⟩ | (exfalso; omega) | omega) Ln_h963 Sp_h963 Al_h963t967 Cu_h963t968)
            ·
              have gh969 : my_fr [(4, 4), (4, 5), (4, 6), (4, 7), (4, 8), (4, 9), (5, 5), (5, 6), (5, 7), (5, 8), (5, 9), (32, -1), (33, -1), (34, -1), (35, -1), (36, -1), (37, -1), (38, -1), (39, -1)] h h969 := my_fr.tr gh952 (frh969.mo rfl)
              have Ln_h969 : Ln h969 := Ln_ag (my_ag.fr frh969 rfl) Ln_h952
              have Sp_h969 : Sp h969 wv := Sp_ag (my_ag.fr frh969 rfl) hwv Ln_h952 Sp_h952
              have Lo_h969 : Lo h h969 := Lo_ag (my_ag.fr frh969 rfl) Ln_h952 Lo_h952
              show wp l rho (d + 7) 49 99 [(2, 82), (0, 1), (0, 0), (0, 0), (0, 1), (0, 0)] [] h969 Q
              have tE978 : cs h952 = cs h := cs_eq (fun j => my_fr.at gh952 is_92 rfl) (my_fr.at gh952 is_82 rfl)
              rw [tE978] at xp971
              have ps979 : h952 82 7 = (sN (cs h) (h 82 7)) := xc960
              rw [ps979] at xp971
              have ck980 := Cu_s Cu_h969t973
              rw [show cs h969 = cs h from cs_eq (fun j => my_fr.at gh969 is_92 rfl) (my_fr.at gh969 is_82 rfl)] at ck980
              have q2 : h952 82 2 = h 82 2 := my_fr.at frh952 is_82 rfl
              have q11 : h952 (h 82 2) 1 = h (h 82 2) 1 := my_fr.at frh952 n_Ln.2.2.2.1 rfl
              have q13 : h952 (h 82 2) 3 = h (h 82 2) 3 := my_fr.at frh952 n_Ln.2.2.2.1 rfl
              have q14 : h952 (h 82 2) 4 = h (h 82 2) 4 := my_fr.at frh952 n_Ln.2.2.2.1 rfl
              have q19 : h952 (h 82 2) 9 = h (h 82 2) 9 := my_fr.at frh952 n_Ln.2.2.2.1 rfl
              have qc : h952 2 = h 2 := funext (fun j => my_fr.at frh952 is_2 rfl)
              have zF := xp971
              simp only [q2, q11, q13, q14, q19, qc] at zF
              have st : h969 82 2 = h 82 2 ∧ h969 (h 82 2) 3 = h (h 82 2) 3 ∧ h969 (h 82 2) 4 = h (h 82 2) 4 ∧ h969 (h 82 2) 9 = h (h 82 2) 9 ∧ h969 (h 82 2) 1 = h (h 82 2) 1 := ⟨(my_fr.at frh969 is_82 rfl).trans q2, (my_fr.at frh969 n_Ln.2.2.2.1 rfl).trans q13, (my_fr.at frh969 n_Ln.2.2.2.1 rfl).trans q14, (my_fr.at frh969 n_Ln.2.2.2.1 rfl).trans q19, (my_fr.at frh969 n_Ln.2.2.2.1 rfl).trans q11⟩
              refine w_goto (t := 140) gz_49_99 rfl ?_
              have psR : h969 82 7 = h969 82 7 := (rfl : h969 82 7 = h969 82 7)
              have npsR : cs h969 = cs h := cs_eq (fun j => my_fr.at gh969 is_92 rfl) (my_fr.at gh969 is_82 rfl)
              have c981 := w970
              exact w_vret gz_49_140 gm_49 (k1 h969 (gh969) (by omega) (by first | exact Lo_h969 | exact ⟨st.1, st.2.1, st.2.2.2.2⟩ | exact Or.inl ⟨by omega, zF, st.2.2.1, st.2.2.2.1⟩ | exact Or.inr (Or.inr (Or.inl ⟨by omega, by omega, zC, st.2.2.1, st.2.2.2.1⟩)) | exact Or.inr (Or.inr (Or.inr (Or.inl ⟨by omega, by omega, zW, st.2.2.2.1⟩))) | exact Or.inr (Or.inr (Or.inr (Or.inr (Or.inl ⟨by omega, by omega, zJ, fun _ => st.2.2.1, st.2.2.2.1⟩)))) | exact Or.inr (Or.inr (Or.inr (Or.inr (Or.inr (Or.inl ⟨by omega, by omega, zS, st.2.2.1, st.2.2.2.1⟩))))) | exact ⟨_, _, _, Or.inl ⟨by omega, zF, rfl, rfl⟩⟩ | exact ⟨_, _, _, Or.inr (Or.inr (Or.inl ⟨by omega, by omega, zC, rfl, rfl⟩))⟩ | exact ⟨_, _, _, Or.inr (Or.inr (Or.inr (Or.inl ⟨by omega, by omega, zW, rfl⟩)))⟩ | exact ⟨_, _, _, Or.inr (Or.inr (Or.inr (Or.inr (Or.inl ⟨by omega, by omega, zJ, fun q => absurd q (by omega), rfl⟩))))⟩ | exact ⟨_, _, _, Or.inr (Or.inr (Or.inr (Or.inr (Or.inr (Or.inl ⟨by omega, by omega, zS, rfl, rfl⟩)))))⟩ | exact ⟨0, 0, 0, Or.inr (Or.inl ⟨by omega, by omega, by omega⟩)⟩ | exact ⟨0, 0, 0, Or.inr (Or.inr (Or.inr (Or.inr (Or.inr (Or.inr ⟨by omega, by omega, by omega, by omega, by omega, by omega⟩)))))⟩ | (exfalso; omega) | omega) (by first | exact Lo_h969 | exact ⟨st.1, st.2.1, st.2.2.2.2⟩ | exact Or.inl ⟨by omega, zF, st.2.2.1, st.2.2.2.1⟩ | exact Or.inr (Or.inr (Or.inl ⟨by omega, by omega, zC, st.2.2.1, st.2.2.2.1⟩)) | exact Or.inr (Or.inr (Or.inr (Or.inl ⟨by omega, by omega, zW, st.2.2.2.1⟩))) | exact Or.inr (Or.inr (Or.inr (Or.inr (Or.inl ⟨by omega, by omega, zJ, fun _ => st.2.2.1, st.2.2.2.1⟩)))) | exact Or.inr (Or.inr (Or.inr (Or.inr (Or.inr (Or.inl ⟨by omega, by omega, zS, st.2.2.1, st.2.2.2.1⟩))))) | exact ⟨_, _, _, Or.inl ⟨by omega, zF, rfl, rfl⟩⟩ | exact ⟨_, _, _, Or.inr (Or.inr (Or.inl ⟨by omega, by omega, zC, rfl, rfl⟩))⟩ | exact ⟨_, _, _, Or.inr (Or.inr (Or.inr (Or.inl ⟨by omega, by omega, zW, rfl⟩)))⟩ | exact ⟨_, _, _, Or.inr (Or.inr (Or.inr (Or.inr (Or.inl ⟨by omega, by omega, zJ, fun q => absurd q (by omega), rfl⟩))))⟩ | exact ⟨_, _, _, Or.inr (Or.inr (Or.inr (Or.inr (Or.inr (Or.inl ⟨by omega, by omega, zS, rfl, rfl⟩)))))⟩ | exact ⟨0, 0, 0, Or.inr (Or.inl ⟨by omega, by omega, by omega⟩)⟩ | exact ⟨0, 0, 0, Or.inr (Or.inr (Or.inr (Or.inr (Or.inr (Or.inr ⟨by omega, by omega, by omega, by omega, by omega, by omega⟩)))))⟩ | (exfalso; omega) | omega) (by first | exact Lo_h969 | exact ⟨st.1, st.2.1, st.2.2.2.2⟩ | exact Or.inl ⟨by omega, zF, st.2.2.1, st.2.2.2.1⟩ | exact Or.inr (Or.inr (Or.inl ⟨by omega, by omega, zC, st.2.2.1, st.2.2.2.1⟩)) | exact Or.inr (Or.inr (Or.inr (Or.inl ⟨by omega, by omega, zW, st.2.2.2.1⟩))) | exact Or.inr (Or.inr (Or.inr (Or.inr (Or.inl ⟨by omega, by omega, zJ, fun _ => st.2.2.1, st.2.2.2.1⟩)))) | exact Or.inr (Or.inr (Or.inr (Or.inr (Or.inr (Or.inl ⟨by omega, by omega, zS, st.2.2.1, st.2.2.2.1⟩))))) | exact ⟨_, _, _, Or.inl ⟨by omega, zF, rfl, rfl⟩⟩ | exact ⟨_, _, _, Or.inr (Or.inr (Or.inl ⟨by omega, by omega, zC, rfl, rfl⟩))⟩ | exact ⟨_, _, _, Or.inr (Or.inr (Or.inr (Or.inl ⟨by omega, by omega, zW, rfl⟩)))⟩ | exact ⟨_, _, _, Or.inr (Or.inr (Or.inr (Or.inr (Or.inl ⟨by omega, by omega, zJ, fun q => absurd q (by omega), rfl⟩))))⟩ | exact ⟨_, _, _, Or.inr (Or.inr (Or.inr (Or.inr (Or.inr (Or.inl ⟨by omega, by omega, zS, rfl, rfl⟩)))))⟩ | exact ⟨0, 0, 0, Or.inr (Or.inl ⟨by omega, by omega, by omega⟩)⟩ | exact ⟨0, 0, 0, Or.inr (Or.inr (Or.inr (Or.inr (Or.inr (Or.inr ⟨by omega, by omega, by omega, by omega, by omega, by omega⟩)))))⟩ | (exfalso; omega) | omega) Ln_h969 Sp_h969 Al_h969t972 Cu_h969t973)
          ·
            show wp l rho (d + 7) 49 35 [(2, 82), (0, 1), (0, 0), (0, 0), (0, 1), (9, 0)] [(0, 1)] h Q
            rw [show wc ((8 : Nat) : Int) = 26801 from by decide] at xp949
            refine w_istore (ls' := [(2, 82), (0, 1), (0, 0), (0, 0), (0, 1), (0, 1)]) gz_49_35 gm_49 rfl rfl rfl ?_
            refine w_iload_n gz_49_37 rfl ?_
            refine w_ifne (t := 65) gz_49_38 rfl (fun u982 => ?_) (fun u982 => by exfalso; omega)
            refine w_iload_n gz_49_65 rfl ?_
            refine w_ifne (t := 87) gz_49_66 rfl (fun u983 => ?_) (fun u983 => by exfalso; omega)
            refine w_aload_n gz_49_87 rfl ?_
            refine w_inv (k := 2) (as := []) (r := []) (x := 82) (ls0 := [(2, 82), (9, 0), (9, 0)]) gz_49_88 gm_37 rfl is_82 rd_5 rfl rfl rfl rfl rfl (c_Reader_nextToken9_f0 (d := (d + 5))  (cf.trans (by omega)) n_Al (fun h984 frh984 w985 w986 w987 xp988 xp989 Al_h984t990 Cu_h984t991 => ?_))
            have gh984 : my_fr [(4, 4), (4, 5), (4, 6), (4, 7), (4, 8), (4, 9), (5, 5), (5, 6), (5, 7), (5, 8), (5, 9), (32, -1), (33, -1), (34, -1), (35, -1), (36, -1), (37, -1), (38, -1), (39, -1)] h h984 := my_fr.tr my_fr.rf (frh984.mo rfl)
            have Ln_h984 : Ln h984 := Ln_ag (my_ag.fr frh984 rfl) n_Ln
            have Sp_h984 : Sp h984 wv := Sp_ag (my_ag.fr frh984 rfl) hwv n_Ln n_Sp
            have Lo_h984 : Lo h h984 := Lo_ag (my_ag.fr frh984 rfl) n_Ln (Lo_rf)
            show wp l rho (d + 7) 49 91 [(2, 82), (0, 1), (0, 0), (0, 0), (0, 1), (0, 1)] [] h984 Q
            have xc992 := xp988 n_Cu
            have ck993 := Cu_s Cu_h984t991
            rw [show cs h984 = cs h from cs_eq (fun j => my_fr.at gh984 is_92 rfl) (my_fr.at gh984 is_82 rfl)] at ck993
            rw [show h984 82 7 = (sN (cs h) (h 82 7)) from xc992] at ck993
            refine w_iload_n gz_49_91 rfl ?_
            refine w_ifeq (t := 102) gz_49_92 rfl (fun u994 => by exfalso; omega) (fun u994 => ?_)
            refine w_aload_n gz_49_95 rfl ?_
            refine w_inv (k := 2) (as := []) (r := []) (x := 82) (ls0 := [(2, 82), (9, 0), (9, 0)]) gz_49_96 gm_50 rfl is_82 rd_5 rfl rfl rfl rfl rfl (c_Reader_readFill9_f0 (d := (d + 3))  (((my_fr.at frh984 is_82 rfl).trans cf).trans (by omega)) Al_h984t990 Cu_h984t991 (fun h995 frh995 w996 w997 xp998 Al_h995t999 Cu_h995t1000 => ?_) (fun h1001 frh1001 w1002 xp1003 Al_h1001t1004 Cu_h1001t1005 => ?_))
            ·
              have gh995 : my_fr [(4, 4), (4, 5), (4, 6), (4, 7), (4, 8), (4, 9), (5, 5), (5, 6), (5, 7), (5, 8), (5, 9), (32, -1), (33, -1), (34, -1), (35, -1), (36, -1), (37, -1), (38, -1), (39, -1)] h h995 := my_fr.tr gh984 (frh995.mo rfl)
              have Ln_h995 : Ln h995 := Ln_ag (my_ag.fr frh995 rfl) Ln_h984
              have Sp_h995 : Sp h995 wv := Sp_ag (my_ag.fr frh995 rfl) hwv Ln_h984 Sp_h984
              have Lo_h995 : Lo h h995 := Lo_ag (my_ag.fr frh995 rfl) Ln_h984 Lo_h984
              show wp l rho (d + 7) 49 99 [(2, 82), (0, 1), (0, 0), (0, 0), (0, 1), (0, 1)] [] h995 Q
              have tE1006 : cs h984 = cs h := cs_eq (fun j => my_fr.at gh984 is_92 rfl) (my_fr.at gh984 is_82 rfl)
              rw [tE1006] at xp998
              have ps1007 : h984 82 7 = (sN (cs h) (h 82 7)) := xc992
              rw [ps1007] at xp998
              have ck1008 := Cu_s Cu_h995t1000
              rw [show cs h995 = cs h from cs_eq (fun j => my_fr.at gh995 is_92 rfl) (my_fr.at gh995 is_82 rfl)] at ck1008
              have q2 : h984 82 2 = h 82 2 := my_fr.at frh984 is_82 rfl
              have q11 : h984 (h 82 2) 1 = h (h 82 2) 1 := my_fr.at frh984 n_Ln.2.2.2.1 rfl
              have q13 : h984 (h 82 2) 3 = h (h 82 2) 3 := my_fr.at frh984 n_Ln.2.2.2.1 rfl
              have q14 : h984 (h 82 2) 4 = h (h 82 2) 4 := my_fr.at frh984 n_Ln.2.2.2.1 rfl
              have q19 : h984 (h 82 2) 9 = h (h 82 2) 9 := my_fr.at frh984 n_Ln.2.2.2.1 rfl
              have qc : h984 2 = h 2 := funext (fun j => my_fr.at frh984 is_2 rfl)
              have zF := xp998
              simp only [q2, q11, q13, q14, q19, qc] at zF
              have st : h995 82 2 = h 82 2 ∧ h995 (h 82 2) 3 = h (h 82 2) 3 ∧ h995 (h 82 2) 4 = h (h 82 2) 4 ∧ h995 (h 82 2) 9 = h (h 82 2) 9 ∧ h995 (h 82 2) 1 = h (h 82 2) 1 := ⟨(my_fr.at frh995 is_82 rfl).trans q2, (my_fr.at frh995 n_Ln.2.2.2.1 rfl).trans q13, (my_fr.at frh995 n_Ln.2.2.2.1 rfl).trans q14, (my_fr.at frh995 n_Ln.2.2.2.1 rfl).trans q19, (my_fr.at frh995 n_Ln.2.2.2.1 rfl).trans q11⟩
              refine w_goto (t := 140) gz_49_99 rfl ?_
              have psR : h995 82 7 = h995 82 7 := (rfl : h995 82 7 = h995 82 7)
              have npsR : cs h995 = cs h := cs_eq (fun j => my_fr.at gh995 is_92 rfl) (my_fr.at gh995 is_82 rfl)
              have c1009 := (rfl : h995 82 9 = h995 82 9)
              exact w_vret gz_49_140 gm_49 (k0 h995 (gh995) (by omega) (by omega) (by first | exact Lo_h995 | exact ⟨st.1, st.2.1, st.2.2.2.2⟩ | exact Or.inl ⟨by omega, zF, st.2.2.1, st.2.2.2.1⟩ | exact Or.inr (Or.inr (Or.inl ⟨by omega, by omega, zC, st.2.2.1, st.2.2.2.1⟩)) | exact Or.inr (Or.inr (Or.inr (Or.inl ⟨by omega, by omega, zW, st.2.2.2.1⟩))) | exact Or.inr (Or.inr (Or.inr (Or.inr (Or.inl ⟨by omega, by omega, zJ, fun _ => st.2.2.1, st.2.2.2.1⟩)))) | exact Or.inr (Or.inr (Or.inr (Or.inr (Or.inr (Or.inl ⟨by omega, by omega, zS, st.2.2.1, st.2.2.2.1⟩))))) | exact ⟨_, _, _, Or.inl ⟨by omega, zF, rfl, rfl⟩⟩ | exact ⟨_, _, _, Or.inr (Or.inr (Or.inl ⟨by omega, by omega, zC, rfl, rfl⟩))⟩ | exact ⟨_, _, _, Or.inr (Or.inr (Or.inr (Or.inl ⟨by omega, by omega, zW, rfl⟩)))⟩ | exact ⟨_, _, _, Or.inr (Or.inr (Or.inr (Or.inr (Or.inl ⟨by omega, by omega, zJ, fun q => absurd q (by omega), rfl⟩))))⟩ | exact ⟨_, _, _, Or.inr (Or.inr (Or.inr (Or.inr (Or.inr (Or.inl ⟨by omega, by omega, zS, rfl, rfl⟩)))))⟩ | exact ⟨0, 0, 0, Or.inr (Or.inl ⟨by omega, by omega, by omega⟩)⟩ | exact ⟨0, 0, 0, Or.inr (Or.inr (Or.inr (Or.inr (Or.inr (Or.inr ⟨by omega, by omega, by omega, by omega, by omega, by omega⟩)))))⟩ | (exfalso; omega) | omega) (by first | exact Lo_h995 | exact ⟨st.1, st.2.1, st.2.2.2.2⟩ | exact Or.inl ⟨by omega, zF, st.2.2.1, st.2.2.2.1⟩ | exact Or.inr (Or.inr (Or.inl ⟨by omega, by omega, zC, st.2.2.1, st.2.2.2.1⟩)) | exact Or.inr (Or.inr (Or.inr (Or.inl ⟨by omega, by omega, zW, st.2.2.2.1⟩))) | exact Or.inr (Or.inr (Or.inr (Or.inr (Or.inl ⟨by omega, by omega, zJ, fun _ => st.2.2.1, st.2.2.2.1⟩)))) | exact Or.inr (Or.inr (Or.inr (Or.inr (Or.inr (Or.inl ⟨by omega, by omega, zS, st.2.2.1, st.2.2.2.1⟩))))) | exact ⟨_, _, _, Or.inl ⟨by omega, zF, rfl, rfl⟩⟩ | exact ⟨_, _, _, Or.inr (Or.inr (Or.inl ⟨by omega, by omega, zC, rfl, rfl⟩))⟩ | exact ⟨_, _, _, Or.inr (Or.inr (Or.inr (Or.inl ⟨by omega, by omega, zW, rfl⟩)))⟩ | exact ⟨_, _, _, Or.inr (Or.inr (Or.inr (Or.inr (Or.inl ⟨by omega, by omega, zJ, fun q => absurd q (by omega), rfl⟩))))⟩ | exact ⟨_, _, _, Or.inr (Or.inr (Or.inr (Or.inr (Or.inr (Or.inl ⟨by omega, by omega, zS, rfl, rfl⟩)))))⟩ | exact ⟨0, 0, 0, Or.inr (Or.inl ⟨by omega, by omega, by omega⟩)⟩ | exact ⟨0, 0, 0, Or.inr (Or.inr (Or.inr (Or.inr (Or.inr (Or.inr ⟨by omega, by omega, by omega, by omega, by omega, by omega⟩)))))⟩ | (exfalso; omega) | omega) Ln_h995 Sp_h995 Al_h995t999 Cu_h995t1000)
            ·
              have gh1001 : my_fr [(4, 4), (4, 5), (4, 6), (4, 7), (4, 8), (4, 9), (5, 5), (5, 6), (5, 7), (5, 8), (5, 9), (32, -1), (33, -1), (34, -1), (35, -1), (36, -1), (37, -1), (38, -1), (39, -1)] h h1001 := my_fr.tr gh984 (frh1001.mo rfl)
              have Ln_h1001 : Ln h1001 := Ln_ag (my_ag.fr frh1001 rfl) Ln_h984
              have Sp_h1001 : Sp h1001 wv := Sp_ag (my_ag.fr frh1001 rfl) hwv Ln_h984 Sp_h984
              have Lo_h1001 : Lo h h1001 := Lo_ag (my_ag.fr frh1001 rfl) Ln_h984 Lo_h984
              show wp l rho (d + 7) 49 99 [(2, 82), (0, 1), (0, 0), (0, 0), (0, 1), (0, 1)] [] h1001 Q
              have tE1010 : cs h984 = cs h := cs_eq (fun j => my_fr.at gh984 is_92 rfl) (my_fr.at gh984 is_82 rfl)
              rw [tE1010] at xp1003
              have ps1011 : h984 82 7 = (sN (cs h) (h 82 7)) := xc992
              rw [ps1011] at xp1003
              have ck1012 := Cu_s Cu_h1001t1005
              rw [show cs h1001 = cs h from cs_eq (fun j => my_fr.at gh1001 is_92 rfl) (my_fr.at gh1001 is_82 rfl)] at ck1012
              have q2 : h984 82 2 = h 82 2 := my_fr.at frh984 is_82 rfl
              have q11 : h984 (h 82 2) 1 = h (h 82 2) 1 := my_fr.at frh984 n_Ln.2.2.2.1 rfl
              have q13 : h984 (h 82 2) 3 = h (h 82 2) 3 := my_fr.at frh984 n_Ln.2.2.2.1 rfl
              have q14 : h984 (h 82 2) 4 = h (h 82 2) 4 := my_fr.at frh984 n_Ln.2.2.2.1 rfl
              have q19 : h984 (h 82 2) 9 = h (h 82 2) 9 := my_fr.at frh984 n_Ln.2.2.2.1 rfl
              have qc : h984 2 = h 2 := funext (fun j => my_fr.at frh984 is_2 rfl)
              have zF := xp1003
              simp only [q2, q11, q13, q14, q19, qc] at zF
              have st : h1001 82 2 = h 82 2 ∧ h1001 (h 82 2) 3 = h (h 82 2) 3 ∧ h1001 (h 82 2) 4 = h (h 82 2) 4 ∧ h1001 (h 82 2) 9 = h (h 82 2) 9 ∧ h1001 (h 82 2) 1 = h (h 82 2) 1 := ⟨(my_fr.at frh1001 is_82 rfl).trans q2, (my_fr.at frh1001 n_Ln.2.2.2.1 rfl).trans q13, (my_fr.at frh1001 n_Ln.2.2.2.1 rfl).trans q14, (my_fr.at frh1001 n_Ln.2.2.2.1 rfl).trans q19, (my_fr.at frh1001 n_Ln.2.2.2.1 rfl).trans q11⟩
              refine w_goto (t := 140) gz_49_99 rfl ?_
              have psR : h1001 82 7 = h1001 82 7 := (rfl : h1001 82 7 = h1001 82 7)
              have npsR : cs h1001 = cs h := cs_eq (fun j => my_fr.at gh1001 is_92 rfl) (my_fr.at gh1001 is_82 rfl)
              have c1013 := w1002
              exact w_vret gz_49_140 gm_49 (k1 h1001 (gh1001) (by omega) (by first | exact Lo_h1001 | exact ⟨st.1, st.2.1, st.2.2.2.2⟩ | exact Or.inl ⟨by omega, zF, st.2.2.1, st.2.2.2.1⟩ | exact Or.inr (Or.inr (Or.inl ⟨by omega, by omega, zC, st.2.2.1, st.2.2.2.1⟩)) | exact Or.inr (Or.inr (Or.inr (Or.inl ⟨by omega, by omega, zW, st.2.2.2.1⟩))) | exact Or.inr (Or.inr (Or.inr (Or.inr (Or.inl ⟨by omega, by omega, zJ, fun _ => st.2.2.1, st.2.2.2.1⟩)))) | exact Or.inr (Or.inr (Or.inr (Or.inr (Or.inr (Or.inl ⟨by omega, by omega, zS, st.2.2.1, st.2.2.2.1⟩))))) | exact ⟨_, _, _, Or.inl ⟨by omega, zF, rfl, rfl⟩⟩ | exact ⟨_, _, _, Or.inr (Or.inr (Or.inl ⟨by omega, by omega, zC, rfl, rfl⟩))⟩ | exact ⟨_, _, _, Or.inr (Or.inr (Or.inr (Or.inl ⟨by omega, by omega, zW, rfl⟩)))⟩ | exact ⟨_, _, _, Or.inr (Or.inr (Or.inr (Or.inr (Or.inl ⟨by omega, by omega, zJ, fun q => absurd q (by omega), rfl⟩))))⟩ | exact ⟨_, _, _, Or.inr (Or.inr (Or.inr (Or.inr (Or.inr (Or.inl ⟨by omega, by omega, zS, rfl, rfl⟩)))))⟩ | exact ⟨0, 0, 0, Or.inr (Or.inl ⟨by omega, by omega, by omega⟩)⟩ | exact ⟨0, 0, 0, Or.inr (Or.inr (Or.inr (Or.inr (Or.inr (Or.inr ⟨by omega, by omega, by omega, by omega, by omega, by omega⟩)))))⟩ | (exfalso; omega) | omega) (by first | exact Lo_h1001 | exact ⟨st.1, st.2.1, st.2.2.2.2⟩ | exact Or.inl ⟨by omega, zF, st.2.2.1, st.2.2.2.1⟩ | exact Or.inr (Or.inr (Or.inl ⟨by omega, by omega, zC, st.2.2.1, st.2.2.2.1⟩)) | exact Or.inr (Or.inr (Or.inr (Or.inl ⟨by omega, by omega, zW, st.2.2.2.1⟩))) | exact Or.inr (Or.inr (Or.inr (Or.inr (Or.inl ⟨by omega, by omega, zJ, fun _ => st.2.2.1, st.2.2.2.1⟩)))) | exact Or.inr (Or.inr (Or.inr (Or.inr (Or.inr (Or.inl ⟨by omega, by omega, zS, st.2.2.1, st.2.2.2.1⟩))))) | exact ⟨_, _, _, Or.inl ⟨by omega, zF, rfl, rfl⟩⟩ | exact ⟨_, _, _, Or.inr (Or.inr (Or.inl ⟨by omega, by omega, zC, rfl, rfl⟩))⟩ | exact ⟨_, _, _, Or.inr (Or.inr (Or.inr (Or.inl ⟨by omega, by omega, zW, rfl⟩)))⟩ | exact ⟨_, _, _, Or.inr (Or.inr (Or.inr (Or.inr (Or.inl ⟨by omega, by omega, zJ, fun q => absurd q (by omega), rfl⟩))))⟩ | exact ⟨_, _, _, Or.inr (Or.inr (Or.inr (Or.inr (Or.inr (Or.inl ⟨by omega, by omega, zS, rfl, rfl⟩)))))⟩ | exact ⟨0, 0, 0, Or.inr (Or.inl ⟨by omega, by omega, by omega⟩)⟩ | exact ⟨0, 0, 0, Or.inr (Or.inr (Or.inr (Or.inr (Or.inr (Or.inr ⟨by omega, by omega, by omega, by omega, by omega, by omega⟩)))))⟩ | (exfalso; omega) | omega) (by first | exact Lo_h1001 | exact ⟨st.1, st.2.1, st.2.2.2.2⟩ | exact Or.inl ⟨by omega, zF, st.2.2.1, st.2.2.2.1⟩ | exact Or.inr (Or.inr (Or.inl ⟨by omega, by omega, zC, st.2.2.1, st.2.2.2.1⟩)) | exact Or.inr (Or.inr (Or.inr (Or.inl ⟨by omega, by omega, zW, st.2.2.2.1⟩))) | exact Or.inr (Or.inr (Or.inr (Or.inr (Or.inl ⟨by omega, by omega, zJ, fun _ => st.2.2.1, st.2.2.2.1⟩)))) | exact Or.inr (Or.inr (Or.inr (Or.inr (Or.inr (Or.inl ⟨by omega, by omega, zS, st.2.2.1, st.2.2.2.1⟩))))) | exact ⟨_, _, _, Or.inl ⟨by omega, zF, rfl, rfl⟩⟩ | exact ⟨_, _, _, Or.inr (Or.inr (Or.inl ⟨by omega, by omega, zC, rfl, rfl⟩))⟩ | exact ⟨_, _, _, Or.inr (Or.inr (Or.inr (Or.inl ⟨by omega, by omega, zW, rfl⟩)))⟩ | exact ⟨_, _, _, Or.inr (Or.inr (Or.inr (Or.inr (Or.inl ⟨by omega, by omega, zJ, fun q => absurd q (by omega), rfl⟩))))⟩ | exact ⟨_, _, _, Or.inr (Or.inr (Or.inr (Or.inr (Or.inr (Or.inl ⟨by omega, by omega, zS, rfl, rfl⟩)))))⟩ | exact ⟨0, 0, 0, Or.inr (Or.inl ⟨by omega, by omega, by omega⟩)⟩ | exact ⟨0, 0, 0, Or.inr (Or.inr (Or.inr (Or.inr (Or.inr (Or.inr ⟨by omega, by omega, by omega, by omega, by omega, by omega⟩)))))⟩ | (exfalso; omega) | omega) Ln_h1001 Sp_h1001 Al_h1001t1004 Cu_h1001t1005)
      ·
        show wp l rho (d + 7) 49 20 [(2, 82), (0, 1), (0, 0), (9, 0), (9, 0), (9, 0)] [(0, 1)] h Q
        rw [show wc ((6 : Nat) : Int) = 8422 from by decide] at xp870
        refine w_istore_n (ls' := [(2, 82), (0, 1), (0, 0), (0, 1), (9, 0), (9, 0)]) gz_49_20 gm_49 rfl rfl rfl ?_
        refine w_aload_n gz_49_21 rfl ?_
        refine w_ldcS gz_49_22 (by decide) ?_
        refine w_inv (k := 1) (as := [(3, ((7 : Nat) : Int))]) (r := []) (x := 82) (ls0 := [(2, 82), (3, ((7 : Nat) : Int)), (9, 0)]) gz_49_24 gm_41 rfl is_82 rd_5 rfl rfl rfl rfl rfl (c_Reader_isWord9_f0 (d := (d + 2)) (x1 := ((7 : Nat) : Int)) (by decide) (cf.trans (by omega)) n_Cu (fun w1014 xp1015 => ?_) (fun w1016 w1017 xp1018 => ?_))
        ·
          show wp l rho (d + 7) 49 27 [(2, 82), (0, 1), (0, 0), (0, 1), (9, 0), (9, 0)] [(0, 0)] h Q
          rw [show wc ((7 : Nat) : Int) = 527412 from by decide] at xp1015
          refine w_istore (ls' := [(2, 82), (0, 1), (0, 0), (0, 1), (0, 0), (9, 0)]) gz_49_27 gm_49 rfl rfl rfl ?_
          refine w_aload_n gz_49_29 rfl ?_
          refine w_ldcS gz_49_30 (by decide) ?_
          refine w_inv (k := 1) (as := [(3, ((8 : Nat) : Int))]) (r := []) (x := 82) (ls0 := [(2, 82), (3, ((8 : Nat) : Int)), (9, 0)]) gz_49_32 gm_41 rfl is_82 rd_5 rfl rfl rfl rfl rfl (c_Reader_isWord9_f0 (d := (d + 2)) (x1 := ((8 : Nat) : Int)) (by decide) (cf.trans (by omega)) n_Cu (fun w1019 xp1020 => ?_) (fun w1021 w1022 xp1023 => ?_))
          ·
            show wp l rho (d + 7) 49 35 [(2, 82), (0, 1), (0, 0), (0, 1), (0, 0), (9, 0)] [(0, 0)] h Q
            rw [show wc ((8 : Nat) : Int) = 26801 from by decide] at xp1020
            refine w_istore (ls' := [(2, 82), (0, 1), (0, 0), (0, 1), (0, 0), (0, 0)]) gz_49_35 gm_49 rfl rfl rfl ?_
            refine w_iload_n gz_49_37 rfl ?_
            refine w_ifne (t := 65) gz_49_38 rfl (fun u1024 => ?_) (fun u1024 => by exfalso; omega)
            refine w_iload_n gz_49_65 rfl ?_
            refine w_ifne (t := 87) gz_49_66 rfl (fun u1025 => ?_) (fun u1025 => by exfalso; omega)
            refine w_aload_n gz_49_87 rfl ?_
            refine w_inv (k := 2) (as := []) (r := []) (x := 82) (ls0 := [(2, 82), (9, 0), (9, 0)]) gz_49_88 gm_37 rfl is_82 rd_5 rfl rfl rfl rfl rfl (c_Reader_nextToken9_f0 (d := (d + 5))  (cf.trans (by omega)) n_Al (fun h1026 frh1026 w1027 w1028 w1029 xp1030 xp1031 Al_h1026t1032 Cu_h1026t1033 => ?_))
            have gh1026 : my_fr [(4, 4), (4, 5), (4, 6), (4, 7), (4, 8), (4, 9), (5, 5), (5, 6), (5, 7), (5, 8), (5, 9), (32, -1), (33, -1), (34, -1), (35, -1), (36, -1), (37, -1), (38, -1), (39, -1)] h h1026 := my_fr.tr my_fr.rf (frh1026.mo rfl)
            have Ln_h1026 : Ln h1026 := Ln_ag (my_ag.fr frh1026 rfl) n_Ln
            have Sp_h1026 : Sp h1026 wv := Sp_ag (my_ag.fr frh1026 rfl) hwv n_Ln n_Sp
            have Lo_h1026 : Lo h h1026 := Lo_ag (my_ag.fr frh1026 rfl) n_Ln (Lo_rf)
            show wp l rho (d + 7) 49 91 [(2, 82), (0, 1), (0, 0), (0, 1), (0, 0), (0, 0)] [] h1026 Q
            have xc1034 := xp1030 n_Cu
            have ck1035 := Cu_s Cu_h1026t1033
            rw [show cs h1026 = cs h from cs_eq (fun j => my_fr.at gh1026 is_92 rfl) (my_fr.at gh1026 is_82 rfl)] at ck1035
            rw [show h1026 82 7 = (sN (cs h) (h 82 7)) from xc1034] at ck1035
            refine w_iload_n gz_49_91 rfl ?_
            refine w_ifeq (t := 102) gz_49_92 rfl (fun u1036 => by exfalso; omega) (fun u1036 => ?_)
            refine w_aload_n gz_49_95 rfl ?_
            refine w_inv (k := 2) (as := []) (r := []) (x := 82) (ls0 := [(2, 82), (9, 0), (9, 0)]) gz_49_96 gm_50 rfl is_82 rd_5 rfl rfl rfl rfl rfl (c_Reader_readFill9_f0 (d := (d + 3))  (((my_fr.at frh1026 is_82 rfl).trans cf).trans (by omega)) Al_h1026t1032 Cu_h1026t1033 (fun h1037 frh1037 w1038 w1039 xp1040 Al_h1037t1041 Cu_h1037t1042 => ?_) (fun h1043 frh1043 w1044 xp1045 Al_h1043t1046 Cu_h1043t1047 => ?_))
            ·
              have gh1037 : my_fr [(4, 4), (4, 5), (4, 6), (4, 7), (4, 8), (4, 9), (5, 5), (5, 6), (5, 7), (5, 8), (5, 9), (32, -1), (33, -1), (34, -1), (35, -1), (36, -1), (37, -1), (38, -1), (39, -1)] h h1037 := my_fr.tr gh1026 (frh1037.mo rfl)
              have Ln_h1037 : Ln h1037 := Ln_ag (my_ag.fr frh1037 rfl) Ln_h1026
              have Sp_h1037 : Sp h1037 wv := Sp_ag (my_ag.fr frh1037 rfl) hwv Ln_h1026 Sp_h1026
              have Lo_h1037 : Lo h h1037 := Lo_ag (my_ag.fr frh1037 rfl) Ln_h1026 Lo_h1026
              show wp l rho (d + 7) 49 99 [(2, 82), (0, 1), (0, 0), (0, 1), (0, 0), (0, 0)] [] h1037 Q
              have tE1048 : cs h1026 = cs h := cs_eq (fun j => my_fr.at gh1026 is_92 rfl) (my_fr.at gh1026 is_82 rfl)
              rw [tE1048] at xp1040
              have ps1049 : h1026 82 7 = (sN (cs h) (h 82 7)) := xc1034
              rw [ps1049] at xp1040
              have ck1050 := Cu_s Cu_h1037t1042
              rw [show cs h1037 = cs h from cs_eq (fun j => my_fr.at gh1037 is_92 rfl) (my_fr.at gh1037 is_82 rfl)] at ck1050
              have q2 : h1026 82 2 = h 82 2 := my_fr.at frh1026 is_82 rfl
              have q11 : h1026 (h 82 2) 1 = h (h 82 2) 1 := my_fr.at frh1026 n_Ln.2.2.2.1 rfl
              have q13 : h1026 (h 82 2) 3 = h (h 82 2) 3 := my_fr.at frh1026 n_Ln.2.2.2.1 rfl
              have q14 : h1026 (h 82 2) 4 = h (h 82 2) 4 := my_fr.at frh1026 n_Ln.2.2.2.1 rfl
              have q19 : h1026 (h 82 2) 9 = h (h 82 2) 9 := my_fr.at frh1026 n_Ln.2.2.2.1 rfl
              have qc : h1026 2 = h 2 := funext (fun j => my_fr.at frh1026 is_2 rfl)
              have zF := xp1040
              simp only [q2, q11, q13, q14, q19, qc] at zF
              have st : h1037 82 2 = h 82 2 ∧ h1037 (h 82 2) 3 = h (h 82 2) 3 ∧ h1037 (h 82 2) 4 = h (h 82 2) 4 ∧ h1037 (h 82 2) 9 = h (h 82 2) 9 ∧ h1037 (h 82 2) 1 = h (h 82 2) 1 := ⟨(my_fr.at frh1037 is_82 rfl).trans q2, (my_fr.at frh1037 n_Ln.2.2.2.1 rfl).trans q13, (my_fr.at frh1037 n_Ln.2.2.2.1 rfl).trans q14, (my_fr.at frh1037 n_Ln.2.2.2.1 rfl).trans q19, (my_fr.at frh1037 n_Ln.2.2.2.1 rfl).trans q11⟩
              refine w_goto (t := 140) gz_49_99 rfl ?_
              have psR : h1037 82 7 = h1037 82 7 := (rfl : h1037 82 7 = h1037 82 7)
              have npsR : cs h1037 = cs h := cs_eq (fun j => my_fr.at gh1037 is_92 rfl) (my_fr.at gh1037 is_82 rfl)
              have c1051 := (rfl : h1037 82 9 = h1037 82 9)
              exact w_vret gz_49_140 gm_49 (k0 h1037 (gh1037) (by omega) (by omega) (by first | exact Lo_h1037 | exact ⟨st.1, st.2.1, st.2.2.2.2⟩ | exact Or.inl ⟨by omega, zF, st.2.2.1, st.2.2.2.1⟩ | exact Or.inr (Or.inr (Or.inl ⟨by omega, by omega, zC, st.2.2.1, st.2.2.2.1⟩)) | exact Or.inr (Or.inr (Or.inr (Or.inl ⟨by omega, by omega, zW, st.2.2.2.1⟩))) | exact Or.inr (Or.inr (Or.inr (Or.inr (Or.inl ⟨by omega, by omega, zJ, fun _ => st.2.2.1, st.2.2.2.1⟩)))) | exact Or.inr (Or.inr (Or.inr (Or.inr (Or.inr (Or.inl ⟨by omega, by omega, zS, st.2.2.1, st.2.2.2.1⟩))))) | exact ⟨_, _, _, Or.inl ⟨by omega, zF, rfl, rfl⟩⟩ | exact ⟨_, _, _, Or.inr (Or.inr (Or.inl ⟨by omega, by omega, zC, rfl, rfl⟩))⟩ | exact ⟨_, _, _, Or.inr (Or.inr (Or.inr (Or.inl ⟨by omega, by omega, zW, rfl⟩)))⟩ | exact ⟨_, _, _, Or.inr (Or.inr (Or.inr (Or.inr (Or.inl ⟨by omega, by omega, zJ, fun q => absurd q (by omega), rfl⟩))))⟩ | exact ⟨_, _, _, Or.inr (Or.inr (Or.inr (Or.inr (Or.inr (Or.inl ⟨by omega, by omega, zS, rfl, rfl⟩)))))⟩ | exact ⟨0, 0, 0, Or.inr (Or.inl ⟨by omega, by omega, by omega⟩)⟩ | exact ⟨0, 0, 0, Or.inr (Or.inr (Or.inr (Or.inr (Or.inr (Or.inr ⟨by omega, by omega, by omega, by omega, by omega, by omega⟩)))))⟩ | (exfalso; omega) | omega) (by first | exact Lo_h1037 | exact ⟨st.1, st.2.1, st.2.2.2.2⟩ | exact Or.inl ⟨by omega, zF, st.2.2.1, st.2.2.2.1⟩ | exact Or.inr (Or.inr (Or.inl ⟨by omega, by omega, zC, st.2.2.1, st.2.2.2.1⟩)) | exact Or.inr (Or.inr (Or.inr (Or.inl ⟨by omega, by omega, zW, st.2.2.2.1⟩))) | exact Or.inr (Or.inr (Or.inr (Or.inr (Or.inl ⟨by omega, by omega, zJ, fun _ => st.2.2.1, st.2.2.2.1⟩)))) | exact Or.inr (Or.inr (Or.inr (Or.inr (Or.inr (Or.inl ⟨by omega, by omega, zS, st.2.2.1, st.2.2.2.1⟩))))) | exact ⟨_, _, _, Or.inl ⟨by omega, zF, rfl, rfl⟩⟩ | exact ⟨_, _, _, Or.inr (Or.inr (Or.inl ⟨by omega, by omega, zC, rfl, rfl⟩))⟩ | exact ⟨_, _, _, Or.inr (Or.inr (Or.inr (Or.inl ⟨by omega, by omega, zW, rfl⟩)))⟩ | exact ⟨_, _, _, Or.inr (Or.inr (Or.inr (Or.inr (Or.inl ⟨by omega, by omega, zJ, fun q => absurd q (by omega), rfl⟩))))⟩ | exact ⟨_, _, _, Or.inr (Or.inr (Or.inr (Or.inr (Or.inr (Or.inl ⟨by omega, by omega, zS, rfl, rfl⟩)))))⟩ | exact ⟨0, 0, 0, Or.inr (Or.inl ⟨by omega, by omega, by omega⟩)⟩ | exact ⟨0, 0, 0, Or.inr (Or.inr (Or.inr (Or.inr (Or.inr (Or.inr ⟨by omega, by omega, by omega, by omega, by omega, by omega⟩)))))⟩ | (exfalso; omega) | omega) Ln_h1037 Sp_h1037 Al_h1037t1041 Cu_h1037t1042)
            ·
              have gh1043 : my_fr [(4, 4), (4, 5), (4, 6), (4, 7), (4, 8), (4, 9), (5, 5), (5, 6), (5, 7), (5, 8), (5, 9), (32, -1), (33, -1), (34, -1), (35, -1), (36, -1), (37, -1), (38, -1), (39, -1)] h h1043 := my_fr.tr gh1026 (frh1043.mo rfl)
              have Ln_h1043 : Ln h1043 := Ln_ag (my_ag.fr frh1043 rfl) Ln_h1026
              have Sp_h1043 : Sp h1043 wv := Sp_ag (my_ag.fr frh1043 rfl) hwv Ln_h1026 Sp_h1026
              have Lo_h1043 : Lo h h1043 := Lo_ag (my_ag.fr frh1043 rfl) Ln_h1026 Lo_h1026
              show wp l rho (d + 7) 49 99 [(2, 82), (0, 1), (0, 0), (0, 1), (0, 0), (0, 0)] [] h1043 Q
              have tE1052 : cs h1026 = cs h := cs_eq (fun j => my_fr.at gh1026 is_92 rfl) (my_fr.at gh1026 is_82 rfl)
              rw [tE1052] at xp1045
              have ps1053 : h1026 82 7 = (sN (cs h) (h 82 7)) := xc1034
              rw [ps1053] at xp1045
              have ck1054 := Cu_s Cu_h1043t1047
              rw [show cs h1043 = cs h from cs_eq (fun j => my_fr.at gh1043 is_92 rfl) (my_fr.at gh1043 is_82 rfl)] at ck1054
              have q2 : h1026 82 2 = h 82 2 := my_fr.at frh1026 is_82 rfl
              have q11 : h1026 (h 82 2) 1 = h (h 82 2) 1 := my_fr.at frh1026 n_Ln.2.2.2.1 rfl
              have q13 : h1026 (h 82 2) 3 = h (h 82 2) 3 := my_fr.at frh1026 n_Ln.2.2.2.1 rfl
              have q14 : h1026 (h 82 2) 4 = h (h 82 2) 4 := my_fr.at frh1026 n_Ln.2.2.2.1 rfl
              have q19 : h1026 (h 82 2) 9 = h (h 82 2) 9 := my_fr.at frh1026 n_Ln.2.2.2.1 rfl
              have qc : h1026 2 = h 2 := funext (fun j => my_fr.at frh1026 is_2 rfl)
              have zF := xp1045
              simp only [q2, q11, q13, q14, q19, qc] at zF
              have st : h1043 82 2 = h 82 2 ∧ h1043 (h 82 2) 3 = h (h 82 2) 3 ∧ h1043 (h 82 2) 4 = h (h 82 2) 4 ∧ h1043 (h 82 2) 9 = h (h 82 2) 9 ∧ h1043 (h 82 2) 1 = h (h 82 2) 1 := ⟨(my_fr.at frh1043 is_82 rfl).trans q2, (my_fr.at frh1043 n_Ln.2.2.2.1 rfl).trans q13, (my_fr.at frh1043 n_Ln.2.2.2.1 rfl).trans q14, (my_fr.at frh1043 n_Ln.2.2.2.1 rfl).trans q19, (my_fr.at frh1043 n_Ln.2.2.2.1 rfl).trans q11⟩
              refine w_goto (t := 140) gz_49_99 rfl ?_
              have psR : h1043 82 7 = h1043 82 7 := (rfl : h1043 82 7 = h1043 82 7)
              have npsR : cs h1043 = cs h := cs_eq (fun j => my_fr.at gh1043 is_92 rfl) (my_fr.at gh1043 is_82 rfl)
              have c1055 := w1044
              exact w_vret gz_49_140 gm_49 (k1 h1043 (gh1043) (by omega) (by first | exact Lo_h1043 | exact ⟨st.1, st.2.1, st.2.2.2.2⟩ | exact Or.inl ⟨by omega, zF, st.2.2.1, st.2.2.2.1⟩ | exact Or.inr (Or.inr (Or.inl ⟨by omega, by omega, zC, st.2.2.1, st.2.2.2.1⟩)) | exact Or.inr (Or.inr (Or.inr (Or.inl ⟨by omega, by omega, zW, st.2.2.2.1⟩))) | exact Or.inr (Or.inr (Or.inr (Or.inr (Or.inl ⟨by omega, by omega, zJ, fun _ => st.2.2.1, st.2.2.2.1⟩)))) | exact Or.inr (Or.inr (Or.inr (Or.inr (Or.inr (Or.inl ⟨by omega, by omega, zS, st.2.2.1, st.2.2.2.1⟩))))) | exact ⟨_, _, _, Or.inl ⟨by omega, zF, rfl, rfl⟩⟩ | exact ⟨_, _, _, Or.inr (Or.inr (Or.inl ⟨by omega, by omega, zC, rfl, rfl⟩))⟩ | exact ⟨_, _, _, Or.inr (Or.inr (Or.inr (Or.inl ⟨by omega, by omega, zW, rfl⟩)))⟩ | exact ⟨_, _, _, Or.inr (Or.inr (Or.inr (Or.inr (Or.inl ⟨by omega, by omega, zJ, fun q => absurd q (by omega), rfl⟩))))⟩ | exact ⟨_, _, _, Or.inr (Or.inr (Or.inr (Or.inr (Or.inr (Or.inl ⟨by omega, by omega, zS, rfl, rfl⟩)))))⟩ | exact ⟨0, 0, 0, Or.inr (Or.inl ⟨by omega, by omega, by omega⟩)⟩ | exact ⟨0, 0, 0, Or.inr (Or.inr (Or.inr (Or.inr (Or.inr (Or.inr ⟨by omega, by omega, by omega, by omega, by omega, by omega⟩)))))⟩ | (exfalso; omega) | omega) (by first | exact Lo_h1043 | exact ⟨st.1, st.2.1, st.2.2.2.2⟩ | exact Or.inl ⟨by omega, zF, st.2.2.1, st.2.2.2.1⟩ | exact Or.inr (Or.inr (Or.inl ⟨by omega, by omega, zC, st.2.2.1, st.2.2.2.1⟩)) | exact Or.inr (Or.inr (Or.inr (Or.inl ⟨by omega, by omega, zW, st.2.2.2.1⟩))) | exact Or.inr (Or.inr (Or.inr (Or.inr (Or.inl ⟨by omega, by omega, zJ, fun _ => st.2.2.1, st.2.2.2.1⟩)))) | exact Or.inr (Or.inr (Or.inr (Or.inr (Or.inr (Or.inl ⟨by omega, by omega, zS, st.2.2.1, st.2.2.2.1⟩))))) | exact ⟨_, _, _, Or.inl ⟨by omega, zF, rfl, rfl⟩⟩ | exact ⟨_, _, _, Or.inr (Or.inr (Or.inl ⟨by omega, by omega, zC, rfl, rfl⟩))⟩ | exact ⟨_, _, _, Or.inr (Or.inr (Or.inr (Or.inl ⟨by omega, by omega, zW, rfl⟩)))⟩ | exact ⟨_, _, _, Or.inr (Or.inr (Or.inr (Or.inr (Or.inl ⟨by omega, by omega, zJ, fun q => absurd q (by omega), rfl⟩))))⟩ | exact ⟨_, _, _, Or.inr (Or.inr (Or.inr (Or.inr (Or.inr (Or.inl ⟨by omega, by omega, zS, rfl, rfl⟩)))))⟩ | exact ⟨0, 0, 0, Or.inr (Or.inl ⟨by omega, by omega, by omega⟩)⟩ | exact ⟨0, 0, 0, Or.inr (Or.inr (Or.inr (Or.inr (Or.inr (Or.inr ⟨by omega, by omega, by omega, by omega, by omega, by omega⟩)))))⟩ | (exfalso; omega) | omega) (by first | exact Lo_h1043 | exact ⟨st.1, st.2.1, st.2.2.2.2⟩ | exact Or.inl ⟨by omega, zF, st.2.2.1, st.2.2.2.1⟩ | exact Or.inr (Or.inr (Or.inl ⟨by omega, by omega, zC, st.2.2.1, st.2.2.2.1⟩)) | exact Or.inr (Or.inr (Or.inr (Or.inl ⟨by omega, by omega, zW, st.2.2.2.1⟩))) | exact Or.inr (Or.inr (Or.inr (Or.inr (Or.inl ⟨by omega, by omega, zJ, fun _ => st.2.2.1, st.2.2.2.1⟩)))) | exact Or.inr (Or.inr (Or.inr (Or.inr (Or.inr (Or.inl ⟨by omega, by omega, zS, st.2.2.1, st.2.2.2.1⟩))))) | exact ⟨_, _, _, Or.inl ⟨by omega, zF, rfl, rfl⟩⟩ | exact ⟨_, _, _, Or.inr (Or.inr (Or.inl ⟨by omega, by omega, zC, rfl, rfl⟩))⟩ | exact ⟨_, _, _, Or.inr (Or.inr (Or.inr (Or.inl ⟨by omega, by omega, zW, rfl⟩)))⟩ | exact ⟨_, _, _, Or.inr (Or.inr (Or.inr (Or.inr (Or.inl ⟨by omega, by omega, zJ, fun q => absurd q (by omega), rfl⟩))))⟩ | exact ⟨_, _, _, Or.inr (Or.inr (Or.inr (Or.inr (Or.inr (Or.inl ⟨by omega, by omega, zS, rfl, rfl⟩)))))⟩ | exact ⟨0, 0, 0, Or.inr (Or.inl ⟨by omega, by omega, by omega⟩)⟩ | exact ⟨0, 0, 0, Or.inr (Or.inr (Or.inr (Or.inr (Or.inr (Or.inr ⟨by omega, by omega, by omega, by omega, by omega, by omega⟩)))))⟩ | (exfalso; omega) | omega) Ln_h1043 Sp_h1043 Al_h1043t1046 Cu_h1043t1047)
          ·
            show wp l rho (d + 7) 49 35 [(2, 82), (0, 1), (0, 0), (0, 1), (0, 0), (9, 0)] [(0, 1)] h Q
            rw [show wc ((8 : Nat) : Int) = 26801 from by decide] at xp1023
            refine w_istore (ls' := [(2, 82), (0, 1), (0, 0), (0, 1), (0, 0), (0, 1)]) gz_49_35 gm_49 rfl rfl rfl ?_
            refine w_iload_n gz_49_37 rfl ?_
            refine w_ifne (t := 65) gz_49_38 rfl (fun u1056 => ?_) (fun u1056 => by exfalso; omega)
            refine w_iload_n gz_49_65 rfl ?_
            refine w_ifne (t := 87) gz_49_66 rfl (fun u1057 => ?_) (fun u1057 => by exfalso; omega)
            refine w_aload_n gz_49_87 rfl ?_
            refine w_inv (k := 2) (as := []) (r := []) (x := 82) (ls0 := [(2, 82), (9, 0), (9, 0)]) gz_49_88 gm_37 rfl is_82 rd_5 rfl rfl rfl rfl rfl (c_Reader_nextToken9_f0 (d := (d + 5))  (cf.trans (by omega)) n_Al (fun h1058 frh1058 w1059 w1060 w1061 xp1062 xp1063 Al_h1058t1064 Cu_h1058t1065 => ?_))
            have gh1058 : my_fr [(4, 4), (4, 5), (4, 6), (4, 7), (4, 8), (4, 9), (5, 5), (5, 6), (5, 7), (5, 8), (5, 9), (32, -1), (33, -1), (34, -1), (35, -1), (36, -1), (37, -1), (38, -1), (39, -1)] h h1058 := my_fr.tr my_fr.rf (frh1058.mo rfl)
            have Ln_h1058 : Ln h1058 := Ln_ag (my_ag.fr frh1058 rfl) n_Ln
            have Sp_h1058 : Sp h1058 wv := Sp_ag (my_ag.fr frh1058 rfl) hwv n_Ln n_Sp
            have Lo_h1058 : Lo h h1058 := Lo_ag (my_ag.fr frh1058 rfl) n_Ln (Lo_rf)
            show wp l rho (d + 7) 49 91 [(2, 82), (0, 1), (0, 0), (0, 1), (0, 0), (0, 1)] [] h1058 Q
            have xc1066 := xp1062 n_Cu
            have ck1067 := Cu_s Cu_h1058t1065
            rw [show cs h1058 = cs h from cs_eq (fun j => my_fr.at gh1058 is_92 rfl) (my_fr.at gh1058 is_82 rfl)] at ck1067
            rw [show h1058 82 7 = (sN (cs h) (h 82 7)) from xc1066] at ck1067
            refine w_iload_n gz_49_91 rfl ?_
            refine w_ifeq (t := 102) gz_49_92 rfl (fun u1068 => by exfalso; omega) (fun u1068 => ?_)
            refine w_aload_n gz_49_95 rfl ?_
            refine w_inv (k := 2) (as := []) (r := []) (x := 82) (ls0 := [(2, 82), (9, 0), (9, 0)]) gz_49_96 gm_50 rfl is_82 rd_5 rfl rfl rfl rfl rfl (c_Reader_readFill9_f0 (d := (d + 3))  (((my_fr.at frh1058 is_82 rfl).trans cf).trans (by omega)) Al_h1058t1064 Cu_h1058t1065 (fun h1069 frh1069 w1070 w1071 xp1072 Al_h1069t1073 Cu_h1069t1074 => ?_) (fun h1075 frh1075 w1076 xp1077 Al_h1075t1078 Cu_h1075t1079 => ?_))
            ·
              have gh1069 : my_fr [(4, 4), (4, 5), (4, 6), (4, 7), (4, 8), (4, 9), (5, 5), (5, 6), (5, 7), (5, 8), (5, 9), (32, -1), (33, -1), (34, -1), (35, -1), (36, -1), (37, -1), (38, -1), (39, -1)] h h1069 := my_fr.tr gh1058 (frh1069.mo rfl)
              have Ln_h1069 : Ln h1069 := Ln_ag (my_ag.fr frh1069 rfl) Ln_h1058
              have Sp_h1069 : Sp h1069 wv := Sp_ag (my_ag.fr frh1069 rfl) hwv Ln_h1058 Sp_h1058
              have Lo_h1069 : Lo h h1069 := Lo_ag (my_ag.fr frh1069 rfl) Ln_h1058 Lo_h1058
              show wp l rho (d + 7) 49 99 [(2, 82), (0, 1), (0, 0), (0, 1), (0, 0), (0, 1)] [] h1069 Q
              have tE1080 : cs h1058 = cs h := cs_eq (fun j => my_fr.at gh1058 is_92 rfl) (my_fr.at gh1058 is_82 rfl)
              rw [tE1080] at xp1072
              have ps1081 : h1058 82 7 = (sN (cs h) (h 82 7)) := xc1066
              rw [ps1081] at xp1072
              have ck1082 := Cu_s Cu_h1069t1074
              rw [show cs h1069 = cs h from cs_eq (fun j => my_fr.at gh1069 is_92 rfl) (my_fr.at gh1069 is_82 rfl)] at ck1082
              have q2 : h1058 82 2 = h 82 2 := my_fr.at frh1058 is_82 rfl
              have q11 : h1058 (h 82 2) 1 = h (h 82 2) 1 := my_fr.at frh1058 n_Ln.2.2.2.1 rfl
              have q13 : h1058 (h 82 2) 3 = h (h 82 2) 3 := my_fr.at frh1058 n_Ln.2.2.2.1 rfl
              have q14 : h1058 (h 82 2) 4 = h (h 82 2) 4 := my_fr.at frh1058 n_Ln.2.2.2.1 rfl
              have q19 : h1058 (h 82 2) 9 = h (h 82 2) 9 := my_fr.at frh1058 n_Ln.2.2.2.1 rfl
              have qc : h1058 2 = h 2 := funext (fun j => my_fr.at frh1058 is_2 rfl)
              have zF := xp1072
              simp only [q2, q11, q13, q14, q19, qc] at zF
              have st : h1069 82 2 = h 82 2 ∧ h1069 (h 82 2) 3 = h (h 82 2) 3 ∧ h1069 (h 82 2) 4 = h (h 82 2) 4 ∧ h1069 (h 82 2) 9 = h (h 82 2) 9 ∧ h1069 (h 82 2) 1 = h (h 82 2) 1 := ⟨(my_fr.at frh1069 is_82 rfl).trans q2, (my_fr.at frh1069 n_Ln.2.2.2.1 rfl).trans q13, (my_fr.at frh1069 n_Ln.2.2.2.1 rfl).trans q14, (my_fr.at frh1069 n_Ln.2.2.2.1 rfl).trans q19, (my_fr.at frh1069 n_Ln.2.2.2.1 rfl).trans q11⟩
              refine w_goto (t := 140) gz_49_99 rfl ?_
              have psR : h1069 82 7 = h1069 82 7 := (rfl : h1069 82 7 = h1069 82 7)
              have npsR : cs h1069 = cs h := cs_eq (fun j => my_fr.at gh1069 is_92 rfl) (my_fr.at gh1069 is_82 rfl)
              have c1083 := (rfl : h1069 82 9 = h1069 82 9)
              exact w_vret gz_49_140 gm_49 (k0 h1069 (gh1069) (by omega) (by omega) (by first | exact Lo_h1069 | exact ⟨st.1, st.2.1, st.2.2.2.2⟩ | exact Or.inl ⟨by omega, zF, st.2.2.1, st.2.2.2.1⟩ | exact Or.inr (Or.inr (Or.inl ⟨by omega, by omega, zC, st.2.2.1, st.2.2.2.1⟩)) | exact Or.inr (Or.inr (Or.inr (Or.inl ⟨by omega, by omega, zW, st.2.2.2.1⟩))) | exact Or.inr (Or.inr (Or.inr (Or.inr (Or.inl ⟨by omega, by omega, zJ, fun _ => st.2.2.1, st.2.2.2.1⟩)))) | exact Or.inr (Or.inr (Or.inr (Or.inr (Or.inr (Or.inl ⟨by omega, by omega, zS, st.2.2.1, st.2.2.2.1⟩))))) | exact ⟨_, _, _, Or.inl ⟨by omega, zF, rfl, rfl⟩⟩ | exact ⟨_, _, _, Or.inr (Or.inr (Or.inl ⟨by omega, by omega, zC, rfl, rfl⟩))⟩ | exact ⟨_, _, _, Or.inr (Or.inr (Or.inr (Or.inl ⟨by omega, by omega, zW, rfl⟩)))⟩ | exact ⟨_, _, _, Or.inr (Or.inr (Or.inr (Or.inr (Or.inl ⟨by omega, by omega, zJ, fun q => absurd q (by omega), rfl⟩))))⟩ | exact ⟨_, _, _, Or.inr (Or.inr (Or.inr (Or.inr (Or.inr (Or.inl ⟨by omega, by omega, zS, rfl, rfl⟩)))))⟩ | exact ⟨0, 0, 0, Or.inr (Or.inl ⟨by omega, by omega, by omega⟩)⟩ | exact ⟨0, 0, 0, Or.inr (Or.inr (Or.inr (Or.inr (Or.inr (Or.inr ⟨by omega, by omega, by omega, by omega, by omega, by omega⟩)))))⟩ | (exfalso; omega) | omega) (by first | exact Lo_h1069 | exact ⟨st.1, st.2.1, st.2.2.2.2⟩ | exact Or.inl ⟨by omega, zF, st.2.2.1, st.2.2.2.1⟩ | exact Or.inr (Or.inr (Or.inl ⟨by omega, by omega, zC, st.2.2.1, st.2.2.2.1⟩)) | exact Or.inr (Or.inr (Or.inr (Or.inl ⟨by omega, by omega, zW, st.2.2.2.1⟩))) | exact Or.inr (Or.inr (Or.inr (Or.inr (Or.inl ⟨by omega, by omega, zJ, fun _ => st.2.2.1, st.2.2.2.1⟩)))) | exact Or.inr (Or.inr (Or.inr (Or.inr (Or.inr (Or.inl ⟨by omega, by omega, zS, st.2.2.1, st.2.2.2.1⟩))))) | exact ⟨_, _, _, Or.inl ⟨by omega, zF, rfl, rfl⟩⟩ | exact ⟨_, _, _, Or.inr (Or.inr (Or.inl ⟨by omega, by omega, zC, rfl, rfl⟩))⟩ | exact ⟨_, _, _, Or.inr (Or.inr (Or.inr (Or.inl ⟨by omega, by omega, zW, rfl⟩)))⟩ | exact ⟨_, _, _, Or.inr (Or.inr (Or.inr (Or.inr (Or.inl ⟨by omega, by omega, zJ, fun q => absurd q (by omega), rfl⟩))))⟩ | exact ⟨_, _, _, Or.inr (Or.inr (Or.inr (Or.inr (Or.inr (Or.inl ⟨by omega, by omega, zS, rfl, rfl⟩)))))⟩ | exact ⟨0, 0, 0, Or.inr (Or.inl ⟨by omega, by omega, by omega⟩)⟩ | exact ⟨0, 0, 0, Or.inr (Or.inr (Or.inr (Or.inr (Or.inr (Or.inr ⟨by omega, by omega, by omega, by omega, by omega, by omega⟩)))))⟩ | (exfalso; omega) | omega) Ln_h1069 Sp_h1069 Al_h1069t1073 Cu_h1069t1074)
            ·
              have gh1075 : my_fr [(4, 4), (4, 5), (4, 6), (4, 7), (4, 8), (4, 9), (5, 5), (5, 6), (5, 7), (5, 8), (5, 9), (32, -1), (33, -1), (34, -1), (35, -1), (36, -1), (37, -1), (38, -1), (39, -1)] h h1075 := my_fr.tr gh1058 (frh1075.mo rfl)
              have Ln_h1075 : Ln h1075 := Ln_ag (my_ag.fr frh1075 rfl) Ln_h1058
              have Sp_h1075 : Sp h1075 wv := Sp_ag (my_ag.fr frh1075 rfl) hwv Ln_h1058 Sp_h1058
              have Lo_h1075 : Lo h h1075 := Lo_ag (my_ag.fr frh1075 rfl) Ln_h1058 Lo_h1058
              show wp l rho (d + 7) 49 99 [(2, 82), (0, 1), (0, 0), (0, 1), (0, 0), (0, 1)] [] h1075 Q
              have tE1084 : cs h1058 = cs h := cs_eq (fun j => my_fr.at gh1058 is_92 rfl) (my_fr.at gh1058 is_82 rfl)
              rw [tE1084] at xp1077
              have ps1085 : h1058 82 7 = (sN (cs h) (h 82 7)) := xc1066
              rw [ps1085] at xp1077
              have ck1086 := Cu_s Cu_h1075t1079
              rw [show cs h1075 = cs h from cs_eq (fun j => my_fr.at gh1075 is_92 rfl) (my_fr.at gh1075 is_82 rfl)] at ck1086
              have q2 : h1058 82 2 = h 82 2 := my_fr.at frh1058 is_82 rfl
              have q11 : h1058 (h 82 2) 1 = h (h 82 2) 1 := my_fr.at frh1058 n_Ln.2.2.2.1 rfl
              have q13 : h1058 (h 82 2) 3 = h (h 82 2) 3 := my_fr.at frh1058 n_Ln.2.2.2.1 rfl
              have q14 : h1058 (h 82 2) 4 = h (h 82 2) 4 := my_fr.at frh1058 n_Ln.2.2.2.1 rfl
              have q19 : h1058 (h 82 2) 9 = h (h 82 2) 9 := my_fr.at frh1058 n_Ln.2.2.2.1 rfl
              have qc : h1058 2 = h 2 := funext (fun j => my_fr.at frh1058 is_2 rfl)
              have zF := xp1077
              simp only [q2, q11, q13, q14, q19, qc] at zF
              have st : h1075 82 2 = h 82 2 ∧ h1075 (h 82 2) 3 = h (h 82 2) 3 ∧ h1075 (h 82 2) 4 = h (h 82 2) 4 ∧ h1075 (h 82 2) 9 = h (h 82 2) 9 ∧ h1075 (h 82 2) 1 = h (h 82 2) 1 := ⟨(my_fr.at frh1075 is_82 rfl).trans q2, (my_fr.at frh1075 n_Ln.2.2.2.1 rfl).trans q13, (my_fr.at frh1075 n_Ln.2.2.2.1 rfl).trans q14, (my_fr.at frh1075 n_Ln.2.2.2.1 rfl).trans q19, (my_fr.at frh1075 n_Ln.2.2.2.1 rfl).trans q11⟩
              refine w_goto (t := 140) gz_49_99 rfl ?_
              have psR : h1075 82 7 = h1075 82 7 := (rfl : h1075 82 7 = h1075 82 7)
              have npsR : cs h1075 = cs h := cs_eq (fun j => my_fr.at gh1075 is_92 rfl) (my_fr.at gh1075 is_82 rfl)
              have c1087 := w1076
              exact w_vret gz_49_140 gm_49 (k1 h1075 (gh1075) (by omega) (by first | exact Lo_h1075 | exact ⟨st.1, st.2.1, st.2.2.2.2⟩ | exact Or.inl ⟨by omega, zF, st.2.2.1, st.2.2.2.1⟩ | exact Or.inr (Or.inr (Or.inl ⟨by omega, by omega, zC, st.2.2.1, st.2.2.2.1⟩)) | exact Or.inr (Or.inr (Or.inr (Or.inl ⟨by omega, by omega, zW, st.2.2.2.1⟩))) | exact Or.inr (Or.inr (Or.inr (Or.inr (Or.inl ⟨by omega, by omega, zJ, fun _ => st.2.2.1, st.2.2.2.1⟩)))) | exact Or.inr (Or.inr (Or.inr (Or.inr (Or.inr (Or.inl ⟨by omega, by omega, zS, st.2.2.1, st.2.2.2.1⟩))))) | exact ⟨_, _, _, Or.inl ⟨by omega, zF, rfl, rfl⟩⟩ | exact ⟨_, _, _, Or.inr (Or.inr (Or.inl ⟨by omega, by omega, zC, rfl, rfl⟩))⟩ | exact ⟨_, _, _, Or.inr (Or.inr (Or.inr (Or.inl ⟨by omega, by omega, zW, rfl⟩)))⟩ | exact ⟨_, _, _, Or.inr (Or.inr (Or.inr (Or.inr (Or.inl ⟨by omega, by omega, zJ, fun q => absurd q (by omega), rfl⟩))))⟩ | exact ⟨_, _, _, Or.inr (Or.inr (Or.inr (Or.inr (Or.inr (Or.inl ⟨by omega, by omega, zS, rfl, rfl⟩)))))⟩ | exact ⟨0, 0, 0, Or.inr (Or.inl ⟨by omega, by omega, by omega⟩)⟩ | exact ⟨0, 0, 0, Or.inr (Or.inr (Or.inr (Or.inr (Or.inr (Or.inr ⟨by omega, by omega, by omega, by omega, by omega, by omega⟩)))))⟩ | (exfalso; omega) | omega) (by first | exact Lo_h1075 | exact ⟨st.1, st.2.1, st.2.2.2.2⟩ | exact Or.inl ⟨by omega, zF, st.2.2.1, st.2.2.2.1⟩ | exact Or.inr (Or.inr (Or.inl ⟨by omega, by omega, zC, st.2.2.1, st.2.2.2.1⟩)) | exact Or.inr (Or.inr (Or.inr (Or.inl ⟨by omega, by omega, zW, st.2.2.2.1⟩))) | exact Or.inr (Or.inr (Or.inr (Or.inr (Or.inl ⟨by omega, by omega, zJ, fun _ => st.2.2.1, st.2.2.2.1⟩)))) | exact Or.inr (Or.inr (Or.inr (Or.inr (Or.inr (Or.inl ⟨by omega, by omega, zS, st.2.2.1, st.2.2.2.1⟩))))) | exact ⟨_, _, _, Or.inl ⟨by omega, zF, rfl, rfl⟩⟩ | exact ⟨_, _, _, Or.inr (Or.inr (Or.inl ⟨by omega, by omega, zC, rfl, rfl⟩))⟩ | exact ⟨_, _, _, Or.inr (Or.inr (Or.inr (Or.inl ⟨by omega, by omega, zW, rfl⟩)))⟩ | exact ⟨_, _, _, Or.inr (Or.inr (Or.inr (Or.inr (Or.inl ⟨by omega, by omega, zJ, fun q => absurd q (by omega), rfl⟩))))⟩ | exact ⟨_, _, _, Or.inr (Or.inr (Or.inr (Or.inr (Or.inr (Or.inl ⟨by omega, by omega, zS, rfl, rfl⟩)))))⟩ | exact ⟨0, 0, 0, Or.inr (Or.inl ⟨by omega, by omega, by omega⟩)⟩ | exact ⟨0, 0, 0, Or.inr (Or.inr (Or.inr (Or.inr (Or.inr (Or.inr ⟨by omega, by omega, by omega, by omega, by omega, by omega⟩)))))⟩ | (exfalso; omega) | omega) (by first | exact Lo_h1075 | exact ⟨st.1, st.2.1, st.2.2.2.2⟩ | exact Or.inl ⟨by omega, zF, st.2.2.1, st.2.2.2.1⟩ | exact Or.inr (Or.inr (Or.inl ⟨by omega, by omega, zC, st.2.2.1, st.2.2.2.1⟩)) | exact Or.inr (Or.inr (Or.inr (Or.inl ⟨by omega, by omega, zW, st.2.2.2.1⟩))) | exact Or.inr (Or.inr (Or.inr (Or.inr (Or.inl ⟨by omega, by omega, zJ, fun _ => st.2.2.1, st.2.2.2.1⟩)))) | exact Or.inr (Or.inr (Or.inr (Or.inr (Or.inr (Or.inl ⟨by omega, by omega, zS, st.2.2.1, st.2.2.2.1⟩))))) | exact ⟨_, _, _, Or.inl ⟨by omega, zF, rfl, rfl⟩⟩ | exact ⟨_, _, _, Or.inr (Or.inr (Or.inl ⟨by omega, by omega, zC, rfl, rfl⟩))⟩ | exact ⟨_, _, _, Or.inr (Or.inr (Or.inr (Or.inl ⟨by omega, by omega, zW, rfl⟩)))⟩ | exact ⟨_, _, _, Or.inr (Or.inr (Or.inr (Or.inr (Or.inl ⟨by omega, by omega, zJ, fun q => absurd q (by omega), rfl⟩))))⟩ | exact ⟨_, _, _, Or.inr (Or.inr (Or.inr (Or.inr (Or.inr (Or.inl ⟨by omega, by omega, zS, rfl, rfl⟩)))))⟩ | exact ⟨0, 0, 0, Or.inr (Or.inl ⟨by omega, by omega, by omega⟩)⟩ | exact ⟨0, 0, 0, Or.inr (Or.inr (Or.inr (Or.inr (Or.inr (Or.inr ⟨by omega, by omega, by omega, by omega, by omega, by omega⟩)))))⟩ | (exfalso; omega) | omega) Ln_h1075 Sp_h1075 Al_h1075t1078 Cu_h1075t1079)
        ·
          show wp l rho (d + 7) 49 27 [(2, 82), (0, 1), (0, 0), (0, 1), (9, 0), (9, 0)] [(0, 1)] h Q
          rw [show wc ((7 : Nat) : Int) = 527412 from by decide] at xp1018
          refine w_istore (ls' := [(2, 82), (0, 1), (0, 0), (0, 1), (0, 1), (9, 0)]) gz_49_27 gm_49 rfl rfl rfl ?_
          refine w_aload_n gz_49_29 rfl ?_
          refine w_ldcS gz_49_30 (by decide) ?_
          refine w_inv (k := 1) (as := [(3, ((8 : Nat) : Int))]) (r := []) (x := 82) (ls0 := [(2, 82), (3, ((8 : Nat) : Int)), (9, 0)]) gz_49_32 gm_41 rfl is_82 rd_5 rfl rfl rfl rfl rfl (c_Reader_isWord9_f0 (d := (d + 2)) (x1 := ((8 : Nat) : Int)) (by decide) (cf.trans (by omega)) n_Cu (fun w1088 xp1089 => ?_) (fun w1090 w1091 xp1092 => ?_))
          ·
            show wp l rho (d + 7) 49 35 [(2, 82), (0, 1), (0, 0), (0, 1), (0, 1), (9, 0)] [(0, 0)] h Q
            rw [show wc ((8 : Nat) : Int) = 26801 from by decide] at xp1089
            refine w_istore (ls' := [(2, 82), (0, 1), (0, 0), (0, 1), (0, 1), (0, 0)]) gz_49_35 gm_49 rfl rfl rfl ?_
            refine w_iload_n gz_49_37 rfl ?_
            refine w_ifne (t := 65) gz_49_38 rfl (fun u1093 => ?_) (fun u1093 => by exfalso; omega)
            refine w_iload_n gz_49_65 rfl ?_
            refine w_ifne (t := 87) gz_49_66 rfl (fun u1094 => ?_) (fun u1094 => by exfalso; omega)
            refine w_aload_n gz_49_87 rfl ?_
            refine w_inv (k := 2) (as := []) (r := []) (x := 82) (ls0 := [(2, 82), (9, 0), (9, 0)]) gz_49_88 gm_37 rfl is_82 rd_5 rfl rfl rfl rfl rfl (c_Reader_nextToken9_f0 (d := (d + 5))  (cf.trans (by omega)) n_Al (fun h1095 frh1095 w1096 w1097 w1098 xp1099 xp1100 Al_h1095t1101 Cu_h1095t1102 => ?_))
            have gh1095 : my_fr [(4, 4), (4, 5), (4, 6), (4, 7), (4, 8), (4, 9), (5, 5), (5, 6), (5, 7), (5, 8), (5, 9), (32, -1), (33, -1), (34, -1), (35, -1), (36, -1), (37, -1), (38, -1), (39, -1)] h h1095 := my_fr.tr my_fr.rf (frh1095.mo rfl)
            have Ln_h1095 : Ln h1095 := Ln_ag (my_ag.fr frh1095 rfl) n_Ln
            have Sp_h1095 : Sp h1095 wv := Sp_ag (my_ag.fr frh1095 rfl) hwv n_Ln n_Sp
            have Lo_h1095 : Lo h h1095 := Lo_ag (my_ag.fr frh1095 rfl) n_Ln (Lo_rf)
            show wp l rho (d + 7) 49 91 [(2, 82), (0, 1), (0, 0), (0, 1), (0, 1), (0, 0)] [] h1095 Q
            have xc1103 := xp1099 n_Cu
            have ck1104 := Cu_s Cu_h1095t1102
            rw [show cs h1095 = cs h from cs_eq (fun j => my_fr.at gh1095 is_92 rfl) (my_fr.at gh1095 is_82 rfl)] at ck1104
            rw [show h1095 82 7 = (sN (cs h) (h 82 7)) from xc1103] at ck1104
            refine w_iload_n gz_49_91 rfl ?_
            refine w_ifeq (t := 102) gz_49_92 rfl (fun u1105 => by exfalso; omega) (fun u1105 => ?_)
            refine w_aload_n gz_49_95 rfl ?_
            refine w_inv (k := 2) (as := []) (r := []) (x := 82) (ls0 := [(2, 82), (9, 0), (9, 0)]) gz_49_96 gm_50 rfl is_82 rd_5 rfl rfl rfl rfl rfl (c_Reader_readFill9_f0 (d := (d + 3))  (((my_fr.at frh1095 is_82 rfl).trans cf).trans (by omega)) Al_h1095t1101 Cu_h1095t1102 (fun h1106 frh1106 w1107 w1108 xp1109 Al_h1106t1110 Cu_h1106t1111 => ?_) (fun h1112 frh1112 w1113 xp1114 Al_h1112t1115 Cu_h1112t1116 => ?_))
            ·
              have gh1106 : my_fr [(4, 4), (4, 5), (4, 6), (4, 7), (4, 8), (4, 9), (5, 5), (5, 6), (5, 7), (5, 8), (5, 9), (32, -1), (33, -1), (34, -1), (35, -1), (36, -1), (37, -1), (38, -1), (39, -1)] h h1106 := my_fr.tr gh1095 (frh1106.mo rfl)
              have Ln_h1106 : Ln h1106 := Ln_ag (my_ag.fr frh1106 rfl) Ln_h1095
              have Sp_h1106 : Sp h1106 wv := Sp_ag (my_ag.fr frh1106 rfl) hwv Ln_h1095 Sp_h1095
              have Lo_h1106 : Lo h h1106 := Lo_ag (my_ag.fr frh1106 rfl) Ln_h1095 Lo_h1095
              show wp l rho (d + 7) 49 99 [(2, 82), (0, 1), (0, 0), (0, 1), (0, 1), (0, 0)] [] h1106 Q
              have tE1117 : cs h1095 = cs h := cs_eq (fun j => my_fr.at gh1095 is_92 rfl) (my_fr.at gh1095 is_82 rfl)
              rw [tE1117] at xp1109
              have ps1118 : h1095 82 7 = (sN (cs h) (h 82 7)) := xc1103
              rw [ps1118] at xp1109
              have ck1119 := Cu_s Cu_h1106t1111
              rw [show cs h1106 = cs h from cs_eq (fun j => my_fr.at gh1106 is_92 rfl) (my_fr.at gh1106 is_82 rfl)] at ck1119
              have q2 : h1095 82 2 = h 82 2 := my_fr.at frh1095 is_82 rfl
              have q11 : h1095 (h 82 2) 1 = h (h 82 2) 1 := my_fr.at frh1095 n_Ln.2.2.2.1 rfl
              have q13 : h1095 (h 82 2) 3 = h (h 82 2) 3 := my_fr.at frh1095 n_Ln.2.2.2.1 rfl
              have q14 : h1095 (h 82 2) 4 = h (h 82 2) 4 := my_fr.at frh1095 n_Ln.2.2.2.1 rfl
              have q19 : h1095 (h 82 2) 9 = h (h 82 2) 9 := my_fr.at frh1095 n_Ln.2.2.2.1 rfl
              have qc : h1095 2 = h 2 := funext (fun j => my_fr.at frh1095 is_2 rfl)
              have zF := xp1109
              simp only [q2, q11, q13, q14, q19, qc] at zF
              have st : h1106 82 2 = h 82 2 ∧ h1106 (h 82 2) 3 = h (h 82 2) 3 ∧ h1106 (h 82 2) 4 = h (h 82 2) 4 ∧ h1106 (h 82 2) 9 = h (h 82 2) 9 ∧ h1106 (h 82 2) 1 = h (h 82 2) 1 := ⟨(my_fr.at frh1106 is_82 rfl).trans q2, (my_fr.at frh1106 n_Ln.2.2.2.1 rfl).trans q13, (my_fr.at frh1106 n_Ln.2.2.2.1 rfl).trans q14, (my_fr.at frh1106 n_Ln.2.2.2.1 rfl).trans q19, (my_fr.at frh1106 n_Ln.2.2.2.1 rfl).trans q11⟩
              refine w_goto (t := 140) gz_49_99 rfl ?_
              have psR : h1106 82 7 = h1106 82 7 := (rfl : h1106 82 7 = h1106 82 7)
              have npsR : cs h1106 = cs h := cs_eq (fun j => my_fr.at gh1106 is_92 rfl) (my_fr.at gh1106 is_82 rfl)
              have c1120 := (rfl : h1106 82 9 = h1106 82 9)
              exact w_vret gz_49_140 gm_49 (k0 h1106 (gh1106) (by omega) (by omega) (by first | exact Lo_h1106 | exact ⟨st.1, st.2.1, st.2.2.2.2⟩ | exact Or.inl ⟨by omega, zF, st.2.2.1, st.2.2.2.1⟩ | exact Or.inr (Or.inr (Or.inl ⟨by omega, by omega, zC, st.2.2.1, st.2.2.2.1⟩)) | exact Or.inr (Or.inr (Or.inr (Or.inl ⟨by omega, by omega, zW, st.2.2.2.1⟩))) | exact Or.inr (Or.inr (Or.inr (Or.inr (Or.inl ⟨by omega, by omega, zJ, fun _ => st.2.2.1, st.2.2.2.1⟩)))) | exact Or.inr (Or.inr (Or.inr (Or.inr (Or.inr (Or.inl ⟨by omega, by omega, zS, st.2.2.1, st.2.2.2.1⟩))))) | exact ⟨_, _, _, Or.inl ⟨by omega, zF, rfl, rfl⟩⟩ | exact ⟨_, _, _, Or.inr (Or.inr (Or.inl ⟨by omega, by omega, zC, rfl, rfl⟩))⟩ | exact ⟨_, _, _, Or.inr (Or.inr (Or.inr (Or.inl ⟨by omega, by omega, zW, rfl⟩)))⟩ | exact ⟨_, _, _, Or.inr (Or.inr (Or.inr (Or.inr (Or.inl ⟨by omega, by omega, zJ, fun q => absurd q (by omega), rfl⟩))))⟩ | exact ⟨_, _, _, Or.inr (Or.inr (Or.inr (Or.inr (Or.inr (Or.inl ⟨by omega, by omega, zS, rfl, rfl⟩)))))⟩ | exact ⟨0, 0, 0, Or.inr (Or.inl ⟨by omega, by omega, by omega⟩)⟩ | exact ⟨0, 0, 0, Or.inr (Or.inr (Or.inr (Or.inr (Or.inr (Or.inr ⟨by omega, by omega, by omega, by omega, by omega, by omega⟩)))))⟩ | (exfalso; omega) | omega) (by first | exact Lo_h1106 | exact ⟨st.1, st.2.1, st.2.2.2.2⟩ | exact Or.inl ⟨by omega, zF, st.2.2.1, st.2.2.2.1⟩ | exact Or.inr (Or.inr (Or.inl ⟨by omega, by omega, zC, st.2.2.1, st.2.2.2.1⟩)) | exact Or.inr (Or.inr (Or.inr (Or.inl ⟨by omega, by omega, zW, st.2.2.2.1⟩))) | exact Or.inr (Or.inr (Or.inr (Or.inr (Or.inl ⟨by omega, by omega, zJ, fun _ => st.2.2.1, st.2.2.2.1⟩)))) | exact Or.inr (Or.inr (Or.inr (Or.inr (Or.inr (Or.inl ⟨by omega, by omega, zS, st.2.2.1, st.2.2.2.1⟩))))) | exact ⟨_, _, _, Or.inl ⟨by omega, zF, rfl, rfl⟩⟩ | exact ⟨_, _, _, Or.inr (Or.inr (Or.inl ⟨by omega, by omega, zC, rfl, rfl⟩))⟩ | exact ⟨_, _, _, Or.inr (Or.inr (Or.inr (Or.inl ⟨by omega, by omega, zW, rfl⟩)))⟩ | exact ⟨_, _, _, Or.inr (Or.inr (Or.inr (Or.inr (Or.inl ⟨by omega, by omega, zJ, fun q => absurd q (by omega), rfl⟩))))⟩ | exact ⟨_, _, _, Or.inr (Or.inr (Or.inr (Or.inr (Or.inr (Or.inl ⟨by omega, by omega, zS, rfl, rfl⟩)))))⟩ | exact ⟨0, 0, 0, Or.inr (Or.inl ⟨by omega, by omega, by omega⟩)⟩ | exact ⟨0, 0, 0, Or.inr (Or.inr (Or.inr (Or.inr (Or.inr (Or.inr ⟨by omega, by omega, by omega, by omega, by omega, by omega⟩)))))⟩ | (exfalso; omega) | omega) Ln_h1106 Sp_h1106 Al_h1106t1110 Cu_h1106t1111)
            ·
              have gh1112 : my_fr [(4, 4), (4, 5), (4, 6), (4, 7), (4, 8), (4, 9), (5, 5), (5, 6), (5, 7), (5, 8), (5, 9), (32, -1), (33, -1), (34, -1), (35, -1), (36, -1), (37, -1), (38, -1), (39, -1)] h h1112 := my_fr.tr gh1095 (frh1112.mo rfl)
              have Ln_h1112 : Ln h1112 := Ln_ag (my_ag.fr frh1112 rfl) Ln_h1095
              have Sp_h1112 : Sp h1112 wv := Sp_ag (my_ag.fr frh1112 rfl) hwv Ln_h1095 Sp_h1095
              have Lo_h1112 : Lo h h1112 := Lo_ag (my_ag.fr frh1112 rfl) Ln_h1095 Lo_h1095
              show wp l rho (d + 7) 49 99 [(2, 82), (0, 1), (0, 0), (0, 1), (0, 1), (0, 0)] [] h1112 Q
              have tE1121 : cs h1095 = cs h := cs_eq (fun j => my_fr.at gh1095 is_92 rfl) (my_fr.at gh1095 is_82 rfl)
              rw [tE1121] at xp1114
              have ps1122 : h1095 82 7 = (sN (cs h) (h 82 7)) := xc1103
              rw [ps1122] at xp1114
              have ck1123 := Cu_s Cu_h1112t1116
              rw [show cs h1112 = cs h from cs_eq (fun j => my_fr.at gh1112 is_92 rfl) (my_fr.at gh1112 is_82 rfl)] at ck1123
              have q2 : h1095 82 2 = h 82 2 := my_fr.at frh1095 is_82 rfl
              have q11 : h1095 (h 82 2) 1 = h (h 82 2) 1 := my_fr.at frh1095 n_Ln.2.2.2.1 rfl
              have q13 : h1095 (h 82 2) 3 = h (h 82 2) 3 := my_fr.at frh1095 n_Ln.2.2.2.1 rfl
              have q14 : h1095 (h 82 2) 4 = h (h 82 2) 4 := my_fr.at frh1095 n_Ln.2.2.2.1 rfl
              have q19 : h1095 (h 82 2) 9 = h (h 82 2) 9 := my_fr.at frh1095 n_Ln.2.2.2.1 rfl
              have qc : h1095 2 = h 2 := funext (fun j => my_fr.at frh1095 is_2 rfl)
              have zF := xp1114
              simp only [q2, q11, q13, q14, q19, qc] at zF
              have st : h1112 82 2 = h 82 2 ∧ h1112 (h 82 2) 3 = h (h 82 2) 3 ∧ h1112 (h 82 2) 4 = h (h 82 2) 4 ∧ h1112 (h 82 2) 9 = h (h 82 2) 9 ∧ h1112 (h 82 2) 1 = h (h 82 2) 1 := ⟨(my_fr.at frh1112 is_82 rfl).trans q2, (my_fr.at frh1112 n_Ln.2.2.2.1 rfl).trans q13, (my_fr.at frh1112 n_Ln.2.2.2.1 rfl).trans q14, (my_fr.at frh1112 n_Ln.2.2.2.1 rfl).trans q19, (my_fr.at frh1112 n_Ln.2.2.2.1 rfl).trans q11⟩
              refine w_goto (t := 140) gz_49_99 rfl ?_
              have psR : h1112 82 7 = h1112 82 7 := (rfl : h1112 82 7 = h1112 82 7)
              have npsR : cs h1112 = cs h := cs_eq (fun j => my_fr.at gh1112 is_92 rfl) (my_fr.at gh1112 is_82 rfl)
              have c1124 := w1113
              exact w_vret gz_49_140 gm_49 (k1 h1112 (gh1112) (by omega) (by first | exact Lo_h1112 | exact ⟨st.1, st.2.1, st.2.2.2.2⟩ | exact Or.inl ⟨by omega, zF, st.2.2.1, st.2.2.2.1⟩ | exact Or.inr (Or.inr (Or.inl ⟨by omega, by omega, zC, st.2.2.1, st.2.2.2.1⟩)) | exact Or.inr (Or.inr (Or.inr (Or.inl ⟨by omega, by omega, zW, st.2.2.2.1⟩))) | exact Or.inr (Or.inr (Or.inr (Or.inr (Or.inl ⟨by omega, by omega, zJ, fun _ => st.2.2.1, st.2.2.2.1⟩)))) | exact Or.inr (Or.inr (Or.inr (Or.inr (Or.inr (Or.inl ⟨by omega, by omega, zS, st.2.2.1, st.2.2.2.1⟩))))) | exact ⟨_, _, _, Or.inl ⟨by omega, zF, rfl, rfl⟩⟩ | exact ⟨_, _, _, Or.inr (Or.inr (Or.inl ⟨by omega, by omega, zC, rfl, rfl⟩))⟩ | exact ⟨_, _, _, Or.inr (Or.inr (Or.inr (Or.inl ⟨by omega, by omega, zW, rfl⟩)))⟩ | exact ⟨_, _, _, Or.inr (Or.inr (Or.inr (Or.inr (Or.inl ⟨by omega, by omega, zJ, fun q => absurd q (by omega), rfl⟩))))⟩ | exact ⟨_, _, _, Or.inr (Or.inr (Or.inr (Or.inr (Or.inr (Or.inl ⟨by omega, by omega, zS, rfl, rfl⟩)))))⟩ | exact ⟨0, 0, 0, Or.inr (Or.inl ⟨by omega, by omega, by omega⟩)⟩ | exact ⟨0, 0, 0, Or.inr (Or.inr (Or.inr (Or.inr (Or.inr (Or.inr ⟨by omega, by omega, by omega, by omega, by omega, by omega⟩)))))⟩ | (exfalso; omega) | omega) (by first | exact Lo_h1112 | exact ⟨st.1, st.2.1, st.2.2.2.2⟩ | exact Or.inl ⟨by omega, zF, st.2.2.1, st.2.2.2.1⟩ | exact Or.inr (Or.inr (Or.inl ⟨by omega, by omega, zC, st.2.2.1, st.2.2.2.1⟩)) | exact Or.inr (Or.inr (Or.inr (Or.inl ⟨by omega, by omega, zW, st.2.2.2.1⟩))) | exact Or.inr (Or.inr (Or.inr (Or.inr (Or.inl ⟨by omega, by omega, zJ, fun _ => st.2.2.1, st.2.2.2.1⟩)))) | exact Or.inr (Or.inr (Or.inr (Or.inr (Or.inr (Or.inl ⟨by omega, by omega, zS, st.2.2.1, st.2.2.2.1⟩))))) | exact ⟨_, _, _, Or.inl ⟨by omega, zF, rfl, rfl⟩⟩ | exact ⟨_, _, _, Or.inr (Or.inr (Or.inl ⟨by omega, by omega, zC, rfl, rfl⟩))⟩ | exact ⟨_, _, _, Or.inr (Or.inr (Or.inr (Or.inl ⟨by omega, by omega, zW, rfl⟩)))⟩ | exact ⟨_, _, _, Or.inr (Or.inr (Or.inr (Or.inr (Or.inl ⟨by omega, by omega, zJ, fun q => absurd q (by omega), rfl⟩))))⟩ | exact ⟨_, _, _, Or.inr (Or.inr (Or.inr (Or.inr (Or.inr (Or.inl ⟨by omega, by omega, zS, rfl, rfl⟩)))))⟩ | exact ⟨0, 0, 0, Or.inr (Or.inl ⟨by omega, by omega, by omega⟩)⟩ | exact ⟨0, 0, 0, Or.inr (Or.inr (Or.inr (Or.inr (Or.inr (Or.inr ⟨by omega, by omega, by omega, by omega, by omega, by omega⟩)))))⟩ | (exfalso; omega) | omega) (by first | exact Lo_h1112 | exact ⟨st.1, st.2.1, st.2.2.2.2⟩ | exact Or.inl ⟨by omega, zF, st.2.2.1, st.2.2.2.1⟩ | exact Or.inr (Or.inr (Or.inl ⟨by omega, by omega, zC, st.2.2.1, st.2.2.2.1⟩)) | exact Or.inr (Or.inr (Or.inr (Or.inl ⟨by omega, by omega, zW, st.2.2.2.1⟩))) | exact Or.inr (Or.inr (Or.inr (Or.inr (Or.inl ⟨by omega, by omega, zJ, fun _ => st.2.2.1, st.2.2.2.1⟩)))) | exact Or.inr (Or.inr (Or.inr (Or.inr (Or.inr (Or.inl ⟨by omega, by omega, zS, st.2.2.1, st.2.2.2.1⟩))))) | exact ⟨_, _, _, Or.inl ⟨by omega, zF, rfl, rfl⟩⟩ | exact ⟨_, _, _, Or.inr (Or.inr (Or.inl ⟨by omega, by omega, zC, rfl, rfl⟩))⟩ | exact ⟨_, _, _, Or.inr (Or.inr (Or.inr (Or.inl ⟨by omega, by omega, zW, rfl⟩)))⟩ | exact ⟨_, _, _, Or.inr (Or.inr (Or.inr (Or.inr (Or.inl ⟨by omega, by omega, zJ, fun q => absurd q (by omega), rfl⟩))))⟩ | exact ⟨_, _, _, Or.inr (Or.inr (Or.inr (Or.inr (Or.inr (Or.inl ⟨by omega, by omega, zS, rfl, rfl⟩)))))⟩ | exact ⟨0, 0, 0, Or.inr (Or.inl ⟨by omega, by omega, by omega⟩)⟩ | exact ⟨0, 0, 0, Or.inr (Or.inr (Or.inr (Or.inr (Or.inr (Or.inr ⟨by omega, by omega, by omega, by omega, by omega, by omega⟩)))))⟩ | (exfalso; omega) | omega) Ln_h1112 Sp_h1112 Al_h1112t1115 Cu_h1112t1116)
          ·
            show wp l rho (d + 7) 49 35 [(2, 82), (0, 1), (0, 0), (0, 1), (0, 1), (9, 0)] [(0, 1)] h Q
            rw [show wc ((8 : Nat) : Int) = 26801 from by decide] at xp1092
            refine w_istore (ls' := [(2, 82), (0, 1), (0, 0), (0, 1), (0, 1), (0, 1)]) gz_49_35 gm_49 rfl rfl rfl ?_
            refine w_iload_n gz_49_37 rfl ?_
            refine w_ifne (t := 65) gz_49_38 rfl (fun u1125 => ?_) (fun u1125 => by exfalso; omega)
            refine w_iload_n gz_49_65 rfl ?_
            refine w_ifne (t := 87) gz_49_66 rfl (fun u1126 => ?_) (fun u1126 => by exfalso; omega)
            refine w_aload_n gz_49_87 rfl ?_
            refine w_inv (k := 2) (as := []) (r := []) (x := 82) (ls0 := [(2, 82), (9, 0), (9, 0)]) gz_49_88 gm_37 rfl is_82 rd_5 rfl rfl rfl rfl rfl (c_Reader_nextToken9_f0 (d := (d + 5))  (cf.trans (by omega)) n_Al (fun h1127 frh1127 w1128 w1129 w1130 xp1131 xp1132 Al_h1127t1133 Cu_h1127t1134 => ?_))
            have gh1127 : my_fr [(4, 4), (4, 5), (4, 6), (4, 7), (4, 8), (4, 9), (5, 5), (5, 6), (5, 7), (5, 8), (5, 9), (32, -1), (33, -1), (34, -1), (35, -1), (36, -1), (37, -1), (38, -1), (39, -1)] h h1127 := my_fr.tr my_fr.rf (frh1127.mo rfl)
            have Ln_h1127 : Ln h1127 := Ln_ag (my_ag.fr frh1127 rfl) n_Ln
            have Sp_h1127 : Sp h1127 wv := Sp_ag (my_ag.fr frh1127 rfl) hwv n_Ln n_Sp
            have Lo_h1127 : Lo h h1127 := Lo_ag (my_ag.fr frh1127 rfl) n_Ln (Lo_rf)
            show wp l rho (d + 7) 49 91 [(2, 82), (0, 1), (0, 0), (0, 1), (0, 1), (0, 1)] [] h1127 Q
            have xc1135 := xp1131 n_Cu
            have ck1136 := Cu_s Cu_h1127t1134
            rw [show cs h1127 = cs h from cs_eq (fun j => my_fr.at gh1127 is_92 rfl) (my_fr.at gh1127 is_82 rfl)] at ck1136
            rw [show h1127 82 7 = (sN (cs h) (h 82 7)) from xc1135] at ck1136
            refine w_iload_n gz_49_91 rfl ?_
            refine w_ifeq (t := 102) gz_49_92 rfl (fun u1137 => by exfalso; omega) (fun u1137 => ?_)
            refine w_aload_n gz_49_95 rfl ?_
            refine w_inv (k := 2) (as := []) (r := []) (x := 82) (ls0 := [(2, 82), (9, 0), (9, 0)]) gz_49_96 gm_50 rfl is_82 rd_5 rfl rfl rfl rfl rfl (c_Reader_readFill9_f0 (d := (d + 3))  (((my_fr.at frh1127 is_82 rfl).trans cf).trans (by omega)) Al_h1127t1133 Cu_h1127t1134 (fun h1138 frh1138 w1139 w1140 xp1141 Al_h1138t1142 Cu_h1138t1143 => ?_) (fun h1144 frh1144 w1145 xp1146 Al_h1144t1147 Cu_h1144t1148 => ?_))
            ·
              have gh1138 : my_fr [(4, 4), (4, 5), (4, 6), (4, 7), (4, 8), (4, 9), (5, 5), (5, 6), (5, 7), (5, 8), (5, 9), (32, -1), (33, -1), (34, -1), (35, -1), (36, -1), (37, -1), (38, -1), (39, -1)] h h1138 := my_fr.tr gh1127 (frh1138.mo rfl)
              have Ln_h1138 : Ln h1138 := Ln_ag (my_ag.fr frh1138 rfl) Ln_h1127
              have Sp_h1138 : Sp h1138 wv := Sp_ag (my_ag.fr frh1138 rfl) hwv Ln_h1127 Sp_h1127
              have Lo_h1138 : Lo h h1138 := Lo_ag (my_ag.fr frh1138 rfl) Ln_h1127 Lo_h1127
              show wp l rho (d + 7) 49 99 [(2, 82), (0, 1), (0, 0), (0, 1), (0, 1), (0, 1)] [] h1138 Q
              have tE1149 : cs h1127 = cs h := cs_eq (fun j => my_fr.at gh1127 is_92 rfl) (my_fr.at gh1127 is_82 rfl)
              rw [tE1149] at xp1141
              have ps1150 : h1127 82 7 = (sN (cs h) (h 82 7)) := xc1135
              rw [ps1150] at xp1141
              have ck1151 := Cu_s Cu_h1138t1143
              rw [show cs h1138 = cs h from cs_eq (fun j => my_fr.at gh1138 is_92 rfl) (my_fr.at gh1138 is_82 rfl)] at ck1151
              have q2 : h1127 82 2 = h 82 2 := my_fr.at frh1127 is_82 rfl
              have q11 : h1127 (h 82 2) 1 = h (h 82 2) 1 := my_fr.at frh1127 n_Ln.2.2.2.1 rfl
              have q13 : h1127 (h 82 2) 3 = h (h 82 2) 3 := my_fr.at frh1127 n_Ln.2.2.2.1 rfl
              have q14 : h1127 (h 82 2) 4 = h (h 82 2) 4 := my_fr.at frh1127 n_Ln.2.2.2.1 rfl
              have q19 : h1127 (h 82 2) 9 = h (h 82 2) 9 := my_fr.at frh1127 n_Ln.2.2.2.1 rfl
              have qc : h1127 2 = h 2 := funext (fun j => my_fr.at frh1127 is_2 rfl)
              have zF := xp1141
              simp only [q2, q11, q13, q14, q19, qc] at zF
              have st : h1138 82 2 = h 82 2 ∧ h1138 (h 82 2) 3 = h (h 82 2) 3 ∧ h1138 (h 82 2) 4 = h (h 82 2) 4 ∧ h1138 (h 82 2) 9 = h (h 82 2) 9 ∧ h1138 (h 82 2) 1 = h (h 82 2) 1 := ⟨(my_fr.at frh1138 is_82 rfl).trans q2, (my_fr.at frh1138 n_Ln.2.2.2.1 rfl).trans q13, (my_fr.at frh1138 n_Ln.2.2.2.1 rfl).trans q14, (my_fr.at frh1138 n_Ln.2.2.2.1 rfl).trans q19, (my_fr.at frh1138 n_Ln.2.2.2.1 rfl).trans q11⟩
              refine w_goto (t := 140) gz_49_99 rfl ?_
              have psR : h1138 82 7 = h1138 82 7 := (rfl : h1138 82 7 = h1138 82 7)
              have npsR : cs h1138 = cs h := cs_eq (fun j => my_fr.at gh1138 is_92 rfl) (my_fr.at gh1138 is_82 rfl)
              have c1152 := (rfl : h1138 82 9 = h1138 82 9)
              exact w_vret gz_49_140 gm_49 (k0 h1138 (gh1138) (by omega) (by omega) (by first | exact Lo_h1138 | exact ⟨st.1, st.2.1, st.2.2.2.2⟩ | exact Or.inl ⟨by omega, zF, st.2.2.1, st.2.2.2.1⟩ | exact Or.inr (Or.inr (Or.inl ⟨by omega, by omega, zC, st.2.2.1, st.2.2.2.1⟩)) | exact Or.inr (Or.inr (Or.inr (Or.inl ⟨by omega, by omega, zW, st.2.2.2.1⟩))) | exact Or.inr (Or.inr (Or.inr (Or.inr (Or.inl ⟨by omega, by omega, zJ, fun _ => st.2.2.1, st.2.2.2.1⟩)))) | exact Or.inr (Or.inr (Or.inr (Or.inr (Or.inr (Or.inl ⟨by omega, by omega, zS, st.2.2.1, st.2.2.2.1⟩))))) | exact ⟨_, _, _, Or.inl ⟨by omega, zF, rfl, rfl⟩⟩ | exact ⟨_, _, _, Or.inr (Or.inr (Or.inl ⟨by omega, by omega, zC, rfl, rfl⟩))⟩ | exact ⟨_, _, _, Or.inr (Or.inr (Or.inr (Or.inl ⟨by omega, by omega, zW, rfl⟩)))⟩ | exact ⟨_, _, _, Or.inr (Or.inr (Or.inr (Or.inr (Or.inl ⟨by omega, by omega, zJ, fun q => absurd q (by omega), rfl⟩))))⟩ | exact ⟨_, _, _, Or.inr (Or.inr (Or.inr (Or.inr (Or.inr (Or.inl ⟨by omega, by omega, zS, rfl, rfl⟩)))))⟩ | exact ⟨0, 0, 0, Or.inr (Or.inl ⟨by omega, by omega, by omega⟩)⟩ | exact ⟨0, 0, 0, Or.inr (Or.inr (Or.inr (Or.inr (Or.inr (Or.inr ⟨by omega, by omega, by omega, by omega, by omega, by omega⟩)))))⟩ | (exfalso; omega) | omega) (by first | exact Lo_h1138 | exact ⟨st.1, st.2.1, st.2.2.2.2⟩ | exact Or.inl ⟨by omega, zF, st.2.2.1, st.2.2.2.1⟩ | exact Or.inr (Or.inr (Or.inl ⟨by omega, by omega, zC, st.2.2.1, st.2.2.2.1⟩)) | exact Or.inr (Or.inr (Or.inr (Or.inl ⟨by omega, by omega, zW, st.2.2.2.1⟩))) | exact Or.inr (Or.inr (Or.inr (Or.inr (Or.inl ⟨by omega, by omega, zJ, fun _ => st.2.2.1, st.2.2.2.1⟩)))) | exact Or.inr (Or.inr (Or.inr (Or.inr (Or.inr (Or.inl ⟨by omega, by omega, zS, st.2.2.1, st.2.2.2.1⟩))))) | exact ⟨_, _, _, Or.inl ⟨by omega, zF, rfl, rfl⟩⟩ | exact ⟨_, _, _, Or.inr (Or.inr (Or.inl ⟨by omega, by omega, zC, rfl, rfl⟩))⟩ | exact ⟨_, _, _, Or.inr (Or.inr (Or.inr (Or.inl ⟨by omega, by omega, zW, rfl⟩)))⟩ | exact ⟨_, _, _, Or.inr (Or.inr (Or.inr (Or.inr (Or.inl ⟨by omega, by omega, zJ, fun q => absurd q (by omega), rfl⟩))))⟩ | exact ⟨_, _, _, Or.inr (Or.inr (Or.inr (Or.inr (Or.inr (Or.inl ⟨by omega, by omega, zS, rfl, rfl⟩)))))⟩ | exact ⟨0, 0, 0, Or.inr (Or.inl ⟨by omega, by omega, by omega⟩)⟩ | exact ⟨0, 0, 0, Or.inr (Or.inr (Or.inr (Or.inr (Or.inr (Or.inr ⟨by omega, by omega, by omega, by omega, by omega, by omega⟩)))))⟩ | (exfalso; omega) | omega) Ln_h1138 Sp_h1138 Al_h1138t1142 Cu_h1138t1143)
            ·
              have gh1144 : my_fr [(4, 4), (4, 5), (4, 6), (4, 7), (4, 8), (4, 9), (5, 5), (5, 6), (5, 7), (5, 8), (5, 9), (32, -1), (33, -1), (34, -1), (35, -1), (36, -1), (37, -1), (38, -1), (39, -1)] h h1144 := my_fr.tr gh1127 (frh1144.mo rfl)
              have Ln_h1144 : Ln h1144 := Ln_ag (my_ag.fr frh1144 rfl) Ln_h1127
              have Sp_h1144 : Sp h1144 wv := Sp_ag (my_ag.fr frh1144 rfl) hwv Ln_h1127 Sp_h1127
              have Lo_h1144 : Lo h h1144 := Lo_ag (my_ag.fr frh1144 rfl) Ln_h1127 Lo_h1127
              show wp l rho (d + 7) 49 99 [(2, 82), (0, 1), (0, 0), (0, 1), (0, 1), (0, 1)] [] h1144 Q
              have tE1153 : cs h1127 = cs h := cs_eq (fun j => my_fr.at gh1127 is_92 rfl) (my_fr.at gh1127 is_82 rfl)
              rw [tE1153] at xp1146
              have ps1154 : h1127 82 7 = (sN (cs h) (h 82 7)) := xc1135
              rw [ps1154] at xp1146
              have ck1155 := Cu_s Cu_h1144t1148
              rw [show cs h1144 = cs h from cs_eq (fun j => my_fr.at gh1144 is_92 rfl) (my_fr.at gh1144 is_82 rfl)] at ck1155
              have q2 : h1127 82 2 = h 82 2 := my_fr.at frh1127 is_82 rfl
              have q11 : h1127 (h 82 2) 1 = h (h 82 2) 1 := my_fr.at frh1127 n_Ln.2.2.2.1 rfl
              have q13 : h1127 (h 82 2) 3 = h (h 82 2) 3 := my_fr.at frh1127 n_Ln.2.2.2.1 rfl
              have q14 : h1127 (h 82 2) 4 = h (h 82 2) 4 := my_fr.at frh1127 n_Ln.2.2.2.1 rfl
              have q19 : h1127 (h 82 2) 9 = h (h 82 2) 9 := my_fr.at frh1127 n_Ln.2.2.2.1 rfl
              have qc : h1127 2 = h 2 := funext (fun j => my_fr.at frh1127 is_2 rfl)
              have zF := xp1146
              simp only [q2, q11, q13, q14, q19, qc] at zF
              have st : h1144 82 2 = h 82 2 ∧ h1144 (h 82 2) 3 = h (h 82 2) 3 ∧ h1144 (h 82 2) 4 = h (h 82 2) 4 ∧ h1144 (h 82 2) 9 = h (h 82 2) 9 ∧ h1144 (h 82 2) 1 = h (h 82 2) 1 := ⟨(my_fr.at frh1144 is_82 rfl).trans q2, (my_fr.at frh1144 n_Ln.2.2.2.1 rfl).trans q13, (my_fr.at frh1144 n_Ln.2.2.2.1 rfl).trans q14, (my_fr.at frh1144 n_Ln.2.2.2.1 rfl).trans q19, (my_fr.at frh1144 n_Ln.2.2.2.1 rfl).trans q11⟩
              refine w_goto (t := 140) gz_49_99 rfl ?_
              have psR : h1144 82 7 = h1144 82 7 := (rfl : h1144 82 7 = h1144 82 7)
              have npsR : cs h1144 = cs h := cs_eq (fun j => my_fr.at gh1144 is_92 rfl) (my_fr.at gh1144 is_82 rfl)
              have c1156 := w1145
              exact w_vret gz_49_140 gm_49 (k1 h1144 (gh1144) (by omega) (by first | exact Lo_h1144 | exact ⟨st.1, st.2.1, st.2.2.2.2⟩ | exact Or.inl ⟨by omega, zF, st.2.2.1, st.2.2.2.1⟩ | exact Or.inr (Or.inr (Or.inl ⟨by omega, by omega, zC, st.2.2.1, st.2.2.2.1⟩)) | exact Or.inr (Or.inr (Or.inr (Or.inl ⟨by omega, by omega, zW, st.2.2.2.1⟩))) | exact Or.inr (Or.inr (Or.inr (Or.inr (Or.inl ⟨by omega, by omega, zJ, fun _ => st.2.2.1, st.2.2.2.1⟩)))) | exact Or.inr (Or.inr (Or.inr (Or.inr (Or.inr (Or.inl ⟨by omega, by omega, zS, st.2.2.1, st.2.2.2.1⟩))))) | exact ⟨_, _, _, Or.inl ⟨by omega, zF, rfl, rfl⟩⟩ | exact ⟨_, _, _, Or.inr (Or.inr (Or.inl ⟨by omega, by omega, zC, rfl, rfl⟩))⟩ | exact ⟨_, _, _, Or.inr (Or.inr (Or.inr (Or.inl ⟨by omega, by omega, zW, rfl⟩)))⟩ | exact ⟨_, _, _, Or.inr (Or.inr (Or.inr (Or.inr (Or.inl ⟨by omega, by omega, zJ, fun q => absurd q (by omega), rfl⟩))))⟩ | exact ⟨_, _, _, Or.inr (Or.inr (Or.inr (Or.inr (Or.inr (Or.inl ⟨by omega, by omega, zS, rfl, rfl⟩)))))⟩ | exact ⟨0, 0, 0, Or.inr (Or.inl ⟨by omega, by omega, by omega⟩)⟩ | exact ⟨0, 0, 0, Or.inr (Or.inr (Or.inr (Or.inr (Or.inr (Or.inr ⟨by omega, by omega, by omega, by omega, by omega, by omega⟩)))))⟩ | (exfalso; omega) | omega) (by first | exact Lo_h1144 | exact ⟨st.1, st.2.1, st.2.2.2.2⟩ | exact Or.inl ⟨by omega, zF, st.2.2.1, st.2.2.2.1⟩ | exact Or.inr (Or.inr (Or.inl ⟨by omega, by omega, zC, st.2.2.1, st.2.2.2.1⟩)) | exact Or.inr (Or.inr (Or.inr (Or.inl ⟨by omega, by omega, zW, st.2.2.2.1⟩))) | exact Or.inr (Or.inr (Or.inr (Or.inr (Or.inl ⟨by omega, by omega, zJ, fun _ => st.2.2.1, st.2.2.2.1⟩)))) | exact Or.inr (Or.inr (Or.inr (Or.inr (Or.inr (Or.inl ⟨by omega, by omega, zS, st.2.2.1, st.2.2.2.1⟩))))) | exact ⟨_, _, _, Or.inl ⟨by omega, zF, rfl, rfl⟩⟩ | exact ⟨_, _, _, Or.inr (Or.inr (Or.inl ⟨by omega, by omega, zC, rfl, rfl⟩))⟩ | exact ⟨_, _, _, Or.inr (Or.inr (Or.inr (Or.inl ⟨by omega, by omega, zW, rfl⟩)))⟩ | exact ⟨_, _, _, Or.inr (Or.inr (Or.inr (Or.inr (Or.inl ⟨by omega, by omega, zJ, fun q => absurd q (by omega), rfl⟩))))⟩ | exact ⟨_, _, _, Or.inr (Or.inr (Or.inr (Or.inr (Or.inr (Or.inl ⟨by omega, by omega, zS, rfl, rfl⟩)))))⟩ | exact ⟨0, 0, 0, Or.inr (Or.inl ⟨by omega, by omega, by omega⟩)⟩ | exact ⟨0, 0, 0, Or.inr (Or.inr (Or.inr (Or.inr (Or.inr (Or.inr ⟨by omega, by omega, by omega, by omega, by omega, by omega⟩)))))⟩ | (exfalso; omega) | omega) (by first | exact Lo_h1144 | exact ⟨st.1, st.2.1, st.2.2.2.2⟩ | exact Or.inl ⟨by omega, zF, st.2.2.1, st.2.2.2.1⟩ | exact Or.inr (Or.inr (Or.inl ⟨by omega, by omega, zC, st.2.2.1, st.2.2.2.1⟩)) | exact Or.inr (Or.inr (Or.inr (Or.inl ⟨by omega, by omega, zW, st.2.2.2.1⟩))) | exact Or.inr (Or.inr (Or.inr (Or.inr (Or.inl ⟨by omega, by omega, zJ, fun _ => st.2.2.1, st.2.2.2.1⟩)))) | exact Or.inr (Or.inr (Or.inr (Or.inr (Or.inr (Or.inl ⟨by omega, by omega, zS, st.2.2.1, st.2.2.2.1⟩))))) | exact ⟨_, _, _, Or.inl ⟨by omega, zF, rfl, rfl⟩⟩ | exact ⟨_, _, _, Or.inr (Or.inr (Or.inl ⟨by omega, by omega, zC, rfl, rfl⟩))⟩ | exact ⟨_, _, _, Or.inr (Or.inr (Or.inr (Or.inl ⟨by omega, by omega, zW, rfl⟩)))⟩ | exact ⟨_, _, _, Or.inr (Or.inr (Or.inr (Or.inr (Or.inl ⟨by omega, by omega, zJ, fun q => absurd q (by omega), rfl⟩))))⟩ | exact ⟨_, _, _, Or.inr (Or.inr (Or.inr (Or.inr (Or.inr (Or.inl ⟨by omega, by omega, zS, rfl, rfl⟩)))))⟩ | exact ⟨0, 0, 0, Or.inr (Or.inl ⟨by omega, by omega, by omega⟩)⟩ | exact ⟨0, 0, 0, Or.inr (Or.inr (Or.inr (Or.inr (Or.inr (Or.inr ⟨by omega, by omega, by omega, by omega, by omega, by omega⟩)))))⟩ | (exfalso; omega) | omega) Ln_h1144 Sp_h1144 Al_h1144t1147 Cu_h1144t1148)
    ·
      show wp l rho (d + 7) 49 13 [(2, 82), (0, 1), (9, 0), (9, 0), (9, 0), (9, 0)] [(0, 1)] h Q
      rw [show wc ((5 : Nat) : Int) = 4904 from by decide] at xp865
      refine w_istore_n (ls' := [(2, 82), (0, 1), (0, 1), (9, 0), (9, 0), (9, 0)]) gz_49_13 gm_49 rfl rfl rfl ?_
      refine w_aload_n gz_49_14 rfl ?_
      refine w_ldcS gz_49_15 (by decide) ?_
      refine w_inv (k := 1) (as := [(3, ((6 : Nat) : Int))]) (r := []) (x := 82) (ls0 := [(2, 82), (3, ((6 : Nat) : Int)), (9, 0)]) gz_49_17 gm_41 rfl is_82 rd_5 rfl rfl rfl rfl rfl (c_Reader_isWord9_f0 (d := (d + 2)) (x1 := ((6 : Nat) : Int)) (by decide) (cf.trans (by omega)) n_Cu (fun w1157 xp1158 => ?_) (fun w1159 w1160 xp1161 => ?_))
      ·
        show wp l rho (d + 7) 49 20 [(2, 82), (0, 1), (0, 1), (9, 0), (9, 0), (9, 0)] [(0, 0)] h Q
        rw [show wc ((6 : Nat) : Int) = 8422 from by decide] at xp1158
        refine w_istore_n (ls' := [(2, 82), (0, 1), (0, 1), (0, 0), (9, 0), (9, 0)]) gz_49_20 gm_49 rfl rfl rfl ?_
        refine w_aload_n gz_49_21 rfl ?_
        refine w_ldcS gz_49_22 (by decide) ?_
        refine w_inv (k := 1) (as := [(3, ((7 : Nat) : Int))]) (r := []) (x := 82) (ls0 := [(2, 82), (3, ((7 : Nat) : Int)), (9, 0)]) gz_49_24 gm_41 rfl is_82 rd_5 rfl rfl rfl rfl rfl (c_Reader_isWord9_f0 (d := (d + 2)) (x1 := ((7 : Nat) : Int)) (by decide) (cf.trans (by omega)) n_Cu (fun w1162 xp1163 => ?_) (fun w1164 w1165 xp1166 => ?_))
        ·
          show wp l rho (d + 7) 49 27 [(2, 82), (0, 1), (0, 1), (0, 0), (9, 0), (9, 0)] [(0, 0)] h Q
          rw [show wc ((7 : Nat) : Int) = 527412 from by decide] at xp1163
          refine w_istore (ls' := [(2, 82), (0, 1), (0, 1), (0, 0), (0, 0), (9, 0)]) gz_49_27 gm_49 rfl rfl rfl ?_
          refine w_aload_n gz_49_29 rfl ?_
          refine w_ldcS gz_49_30 (by decide) ?_
          refine w_inv (k := 1) (as := [(3, ((8 : Nat) : Int))]) (r := []) (x := 82) (ls0 := [(2, 82), (3, ((8 : Nat) : Int)), (9, 0)]) gz_49_32 gm_41 rfl is_82 rd_5 rfl rfl rfl rfl rfl (c_Reader_isWord9_f0 (d := (d + 2)) (x1 := ((8 : Nat) : Int)) (by decide) (cf.trans (by omega)) n_Cu (fun w1167 xp1168 => ?_) (fun w1169 w1170 xp1171 => ?_))
          ·
            show wp l rho (d + 7) 49 35 [(2, 82), (0, 1), (0, 1), (0, 0), (0, 0), (9, 0)] [(0, 0)] h Q
            rw [show wc ((8 : Nat) : Int) = 26801 from by decide] at xp1168
            refine w_istore (ls' := [(2, 82), (0, 1), (0, 1), (0, 0), (0, 0), (0, 0)]) gz_49_35 gm_49 rfl rfl rfl ?_
            refine w_iload_n gz_49_37 rfl ?_
            refine w_ifne (t := 65) gz_49_38 rfl (fun u1172 => ?_) (fun u1172 => by exfalso; omega)
            refine w_iload_n gz_49_65 rfl ?_
            refine w_ifne (t := 87) gz_49_66 rfl (fun u1173 => ?_) (fun u1173 => by exfalso; omega)
            refine w_aload_n gz_49_87 rfl ?_
            refine w_inv (k := 2) (as := []) (r := []) (x := 82) (ls0 := [(2, 82), (9, 0), (9, 0)]) gz_49_88 gm_37 rfl is_82 rd_5 rfl rfl rfl rfl rfl (c_Reader_nextToken9_f0 (d := (d + 5))  (cf.trans (by omega)) n_Al (fun h1174 frh1174 w1175 w1176 w1177 xp1178 xp1179 Al_h1174t1180 Cu_h1174t1181 => ?_))
            have gh1174 : my_fr [(4, 4), (4, 5), (4, 6), (4, 7), (4, 8), (4, 9), (5, 5), (5, 6), (5, 7), (5, 8), (5, 9), (32, -1), (33, -1), (34, -1), (35, -1), (36, -1), (37, -1), (38, -1), (39, -1)] h h1174 := my_fr.tr my_fr.rf (frh1174.mo rfl)
            have Ln_h1174 : Ln h1174 := Ln_ag (my_ag.fr frh1174 rfl) n_Ln
            have Sp_h1174 : Sp h1174 wv := Sp_ag (my_ag.fr frh1174 rfl) hwv n_Ln n_Sp
            have Lo_h1174 : Lo h h1174 := Lo_ag (my_ag.fr frh1174 rfl) n_Ln (Lo_rf)
            show wp l rho (d + 7) 49 91 [(2, 82), (0, 1), (0, 1), (0, 0), (0, 0), (0, 0)] [] h1174 Q
            have xc1182 := xp1178 n_Cu
            have ck1183 := Cu_s Cu_h1174t1181
            rw [show cs h1174 = cs h from cs_eq (fun j => my_fr.at gh1174 is_92 rfl) (my_fr.at gh1174 is_82 rfl)] at ck1183
            rw [show h1174 82 7 = (sN (cs h) (h 82 7)) from xc1182] at ck1183
            refine w_iload_n gz_49_91 rfl ?_
            refine w_ifeq (t := 102) gz_49_92 rfl (fun u1184 => by exfalso; omega) (fun u1184 => ?_)
            refine w_aload_n gz_49_95 rfl ?_
            refine w_inv (k := 2) (as := []) (r := []) (x := 82) (ls0 := [(2, 82), (9, 0), (9, 0)]) gz_49_96 gm_50 rfl is_82 rd_5 rfl rfl rfl rfl rfl (c_Reader_readFill9_f0 (d := (d + 3))  (((my_fr.at frh1174 is_82 rfl).trans cf).trans (by omega)) Al_h1174t1180 Cu_h1174t1181 (fun h1185 frh1185 w1186 w1187 xp1188 Al_h1185t1189 Cu_h1185t1190 => ?_) (fun h1191 frh1191 w1192 xp1193 Al_h1191t1194 Cu_h1191t1195 => ?_))
            ·
              have gh1185 : my_fr [(4, 4), (4, 5), (4, 6), (4, 7), (4, 8), (4, 9), (5, 5), (5, 6), (5, 7), (5, 8), (5, 9), (32, -1), (33, -1), (34, -1), (35, -1), (36, -1), (37, -1), (38, -1), (39, -1)] h h1185 := my_fr.tr gh1174 (frh1185.mo rfl)
              have Ln_h1185 : Ln h1185 := Ln_ag (my_ag.fr frh1185 rfl) Ln_h1174
              have Sp_h1185 : Sp h1185 wv := Sp_ag (my_ag.fr frh1185 rfl) hwv Ln_h1174 Sp_h1174
              have Lo_h1185 : Lo h h1185 := Lo_ag (my_ag.fr frh1185 rfl) Ln_h1174 Lo_h1174
              show wp l rho (d + 7) 49 99 [(2, 82), (0, 1), (0, 1), (0, 0), (0, 0), (0, 0)] [] h1185 Q
              have tE1196 : cs h1174 = cs h := cs_eq (fun j => my_fr.at gh1174 is_92 rfl) (my_fr.at gh1174 is_82 rfl)
              rw [tE1196] at xp1188
              have ps1197 : h1174 82 7 = (sN (cs h) (h 82 7)) := xc1182
              rw [ps1197] at xp1188
              have ck1198 := Cu_s Cu_h1185t1190
              rw [show cs h1185 = cs h from cs_eq (fun j => my_fr.at gh1185 is_92 rfl) (my_fr.at gh1185 is_82 rfl)] at ck1198
              have q2 : h1174 82 2 = h 82 2 := my_fr.at frh1174 is_82 rfl
              have q11 : h1174 (h 82 2) 1 = h (h 82 2) 1 := my_fr.at frh1174 n_Ln.2.2.2.1 rfl
              have q13 : h1174 (h 82 2) 3 = h (h 82 2) 3 := my_fr.at frh1174 n_Ln.2.2.2.1 rfl
              have q14 : h1174 (h 82 2) 4 = h (h 82 2) 4 := my_fr.at frh1174 n_Ln.2.2.2.1 rfl
              have q19 : h1174 (h 82 2) 9 = h (h 82 2) 9 := my_fr.at frh1174 n_Ln.2.2.2.1 rfl
              have qc : h1174 2 = h 2 := funext (fun j => my_fr.at frh1174 is_2 rfl)
              have zF := xp1188
              simp only [q2, q11, q13, q14, q19, qc] at zF
              have st : h1185 82 2 = h 82 2 ∧ h1185 (h 82 2) 3 = h (h 82 2) 3 ∧ h1185 (h 82 2) 4 = h (h 82 2) 4 ∧ h1185 (h 82 2) 9 = h (h 82 2) 9 ∧ h1185 (h 82 2) 1 = h (h 82 2) 1 := ⟨(my_fr.at frh1185 is_82 rfl).trans q2, (my_fr.at frh1185 n_Ln.2.2.2.1 rfl).trans q13, (my_fr.at frh1185 n_Ln.2.2.2.1 rfl).trans q14, (my_fr.at frh1185 n_Ln.2.2.2.1 rfl).trans q19, (my_fr.at frh1185 n_Ln.2.2.2.1 rfl).trans q11⟩
              refine w_goto (t := 140) gz_49_99 rfl ?_
              have psR : h1185 82 7 = h1185 82 7 := (rfl : h1185 82 7 = h1185 82 7)
              have npsR : cs h1185 = cs h := cs_eq (fun j => my_fr.at gh1185 is_92 rfl) (my_fr.at gh1185 is_82 rfl)
              have c1199 := (rfl : h1185 82 9 = h1185 82 9)
              exact w_vret gz_49_140 gm_49 (k0 h1185 (gh1185) (by omega) (by omega) (by first | exact Lo_h1185 | exact ⟨st.1, st.2.1, st.2.2.2.2⟩ | exact Or.inl ⟨by omega, zF, st.2.2.1, st.2.2.2.1⟩ | exact Or.inr (Or.inr (Or.inl ⟨by omega, by omega, zC, st.2.2.1, st.2.2.2.1⟩)) | exact Or.inr (Or.inr (Or.inr (Or.inl ⟨by omega, by omega, zW, st.2.2.2.1⟩))) | exact Or.inr (Or.inr (Or.inr (Or.inr (Or.inl ⟨by omega, by omega, zJ, fun _ => st.2.2.1, st.2.2.2.1⟩)))) | exact Or.inr (Or.inr (Or.inr (Or.inr (Or.inr (Or.inl ⟨by omega, by omega, zS, st.2.2.1, st.2.2.2.1⟩))))) | exact ⟨_, _, _, Or.inl ⟨by omega, zF, rfl, rfl⟩⟩ | exact ⟨_, _, _, Or.inr (Or.inr (Or.inl ⟨by omega, by omega, zC, rfl, rfl⟩))⟩ | exact ⟨_, _, _, Or.inr (Or.inr (Or.inr (Or.inl ⟨by omega, by omega, zW, rfl⟩)))⟩ | exact ⟨_, _, _, Or.inr (Or.inr (Or.inr (Or.inr (Or.inl ⟨by omega, by omega, zJ, fun q => absurd q (by omega), rfl⟩))))⟩ | exact ⟨_, _, _, Or.inr (Or.inr (Or.inr (Or.inr (Or.inr (Or.inl ⟨by omega, by omega, zS, rfl, rfl⟩)))))⟩ | exact ⟨0, 0, 0, Or.inr (Or.inl ⟨by omega, by omega, by omega⟩)⟩ | exact ⟨0, 0, 0, Or.inr (Or.inr (Or.inr (Or.inr (Or.inr (Or.inr ⟨by omega, by omega, by omega, by omega, by omega, by omega⟩)))))⟩ | (exfalso; omega) | omega) (by first | exact Lo_h1185 | exact ⟨st.1, st.2.1, st.2.2.2.2⟩ | exact Or.inl ⟨by omega, zF, st.2.2.1, st.2.2.2.1⟩ | exact Or.inr (Or.inr (Or.inl ⟨by omega, by omega, zC, st.2.2.1, st.2.2.2.1⟩)) | exact Or.inr (Or.inr (Or.inr (Or.inl ⟨by omega, by omega, zW, st.2.2.2.1⟩))) | exact Or.inr (Or.inr (Or.inr (Or.inr (Or.inl ⟨by omega, by omega, zJ, fun _ => st.2.2.1, st.2.2.2.1⟩)))) | exact Or.inr (Or.inr (Or.inr (Or.inr (Or.inr (Or.inl ⟨by omega, by omega, zS, st.2.2.1, st.2.2.2.1⟩))))) | exact ⟨_, _, _, Or.inl ⟨by omega, zF, rfl, rfl⟩⟩ | exact ⟨_, _, _, Or.inr (Or.inr (Or.inl ⟨by omega, by omega, zC, rfl, rfl⟩))⟩ | exact ⟨_, _, _, Or.inr (Or.inr (Or.inr (Or.inl ⟨by omega, by omega, zW, rfl⟩)))⟩ | exact ⟨_, _, _, Or.inr (Or.inr (Or.inr (Or.inr (Or.inl ⟨by omega, by omega, zJ, fun q => absurd q (by omega), rfl⟩))))⟩ | exact ⟨_, _, _, Or.inr (Or.inr (Or.inr (Or.inr (Or.inr (Or.inl ⟨by omega, by omega, zS, rfl, rfl⟩)))))⟩ | exact ⟨0, 0, 0, Or.inr (Or.inl ⟨by omega, by omega, by omega⟩)⟩ | exact ⟨0, 0, 0, Or.inr (Or.inr (Or.inr (Or.inr (Or.inr (Or.inr ⟨by omega, by omega, by omega, by omega, by omega, by omega⟩)))))⟩ | (exfalso; omega) | omega) Ln_h1185 Sp_h1185 Al_h1185t1189 Cu_h1185t1190)
            ·
              have gh1191 : my_fr [(4, 4), (4, 5), (4, 6), (4, 7), (4, 8), (4, 9), (5, 5), (5, 6), (5, 7), (5, 8), (5, 9), (32, -1), (33, -1), (34, -1), (35, -1), (36, -1), (37, -1), (38, -1), (39, -1)] h h1191 := my_fr.tr gh1174 (frh1191.mo rfl)
              have Ln_h1191 : Ln h1191 := Ln_ag (my_ag.fr frh1191 rfl) Ln_h1174
              have Sp_h1191 : Sp h1191 wv := Sp_ag (my_ag.fr frh1191 rfl) hwv Ln_h1174 Sp_h1174
              have Lo_h1191 : Lo h h1191 := Lo_ag (my_ag.fr frh1191 rfl) Ln_h1174 Lo_h1174
              show wp l rho (d + 7) 49 99 [(2, 82), (0, 1), (0, 1), (0, 0), (0, 0), (0, 0)] [] h1191 Q
              have tE1200 : cs h1174 = cs h := cs_eq (fun j => my_fr.at gh1174 is_92 rfl) (my_fr.at gh1174 is_82 rfl)
              rw [tE1200] at xp1193
              have ps1201 : h1174 82 7 = (sN (cs h) (h 82 7)) := xc1182
              rw [ps1201] at xp1193
              have ck1202 := Cu_s Cu_h1191t1195
              rw [show cs h1191 = cs h from cs_eq (fun j => my_fr.at gh1191 is_92 rfl) (my_fr.at gh1191 is_82 rfl)] at ck1202
              have q2 : h1174 82 2 = h 82 2 := my_fr.at frh1174 is_82 rfl
              have q11 : h1174 (h 82 2) 1 = h (h 82 2) 1 := my_fr.at frh1174 n_Ln.2.2.2.1 rfl
              have q13 : h1174 (h 82 2) 3 = h (h 82 2) 3 := my_fr.at frh1174 n_Ln.2.2.2.1 rfl
              have q14 : h1174 (h 82 2) 4 = h (h 82 2) 4 := my_fr.at frh1174 n_Ln.2.2.2.1 rfl
              have q19 : h1174 (h 82 2) 9 = h (h 82 2) 9 := my_fr.at frh1174 n_Ln.2.2.2.1 rfl
              have qc : h1174 2 = h 2 := funext (fun j => my_fr.at frh1174 is_2 rfl)
              have zF := xp1193
              simp only [q2, q11, q13, q14, q19, qc] at zF
              have st : h1191 82 2 = h 82 2 ∧ h1191 (h 82 2) 3 = h (h 82 2) 3 ∧ h1191 (h 82 2) 4 = h (h 82 2) 4 ∧ h1191 (h 82 2) 9 = h (h 82 2) 9 ∧ h1191 (h 82 2) 1 = h (h 82 2) 1 := ⟨(my_fr.at frh1191 is_82 rfl).trans q2, (my_fr.at frh1191 n_Ln.2.2.2.1 rfl).trans q13, (my_fr.at frh1191 n_Ln.2.2.2.1 rfl).trans q14, (my_fr.at frh1191 n_Ln.2.2.2.1 rfl).trans q19, (my_fr.at frh1191 n_Ln.2.2.2.1 rfl).trans q11⟩
              refine w_goto (t := 140) gz_49_99 rfl ?_
              have psR : h1191 82 7 = h1191 82 7 := (rfl : h1191 82 7 = h1191 82 7)
              have npsR : cs h1191 = cs h := cs_eq (fun j => my_fr.at gh1191 is_92 rfl) (my_fr.at gh1191 is_82 rfl)
              have c1203 := w1192
              exact w_vret gz_49_140 gm_49 (k1 h1191 (gh1191) (by omega) (by first | exact Lo_h1191 | exact ⟨st.1, st.2.1, st.2.2.2.2⟩ | exact Or.inl ⟨by omega, zF, st.2.2.1, st.2.2.2.1⟩ | exact Or.inr (Or.inr (Or.inl ⟨by omega, by omega, zC, st.2.2.1, st.2.2.2.1⟩)) | exact Or.inr (Or.inr (Or.inr (Or.inl ⟨by omega, by omega, zW, st.2.2.2.1⟩))) | exact Or.inr (Or.inr (Or.inr (Or.inr (Or.inl ⟨by omega, by omega, zJ, fun _ => st.2.2.1, st.2.2.2.1⟩)))) | exact Or.inr (Or.inr (Or.inr (Or.inr (Or.inr (Or.inl ⟨by omega, by omega, zS, st.2.2.1, st.2.2.2.1⟩))))) | exact ⟨_, _, _, Or.inl ⟨by omega, zF, rfl, rfl⟩⟩ | exact ⟨_, _, _, Or.inr (Or.inr (Or.inl ⟨by omega, by omega, zC, rfl, rfl⟩))⟩ | exact ⟨_, _, _, Or.inr (Or.inr (Or.inr (Or.inl ⟨by omega, by omega, zW, rfl⟩)))⟩ | exact ⟨_, _, _, Or.inr (Or.inr (Or.inr (Or.inr (Or.inl ⟨by omega, by omega, zJ, fun q => absurd q (by omega), rfl⟩))))⟩ | exact ⟨_, _, _, Or.inr (Or.inr (Or.inr (Or.inr (Or.inr (Or.inl ⟨by omega, by omega, zS, rfl, rfl⟩)))))⟩ | exact ⟨0, 0, 0, Or.inr (Or.inl ⟨by omega, by omega, by omega⟩)⟩ | exact ⟨0, 0, 0, Or.inr (Or.inr (Or.inr (Or.inr (Or.inr (Or.inr ⟨by omega, by omega, by omega, by omega, by omega, by omega⟩)))))⟩ | (exfalso; omega) | omega) (by first | exact Lo_h1191 | exact ⟨st.1, st.2.1, st.2.2.2.2⟩ | exact Or.inl ⟨by omega, zF, st.2.2.1, st.2.2.2.1⟩ | exact Or.inr (Or.inr (Or.inl ⟨by omega, by omega, zC, st.2.2.1, st.2.2.2.1⟩)) | exact Or.inr (Or.inr (Or.inr (Or.inl ⟨by omega, by omega, zW, st.2.2.2.1⟩))) | exact Or.inr (Or.inr (Or.inr (Or.inr (Or.inl ⟨by omega, by omega, zJ, fun _ => st.2.2.1, st.2.2.2.1⟩)))) | exact Or.inr (Or.inr (Or.inr (Or.inr (Or.inr (Or.inl ⟨by omega, by omega, zS, st.2.2.1, st.2.2.2.1⟩))))) | exact ⟨_, _, _, Or.inl ⟨by omega, zF, rfl, rfl⟩⟩ | exact ⟨_, _, _, Or.inr (Or.inr (Or.inl ⟨by omega, by omega, zC, rfl, rfl⟩))⟩ | exact ⟨_, _, _, Or.inr (Or.inr (Or.inr (Or.inl ⟨by omega, by omega, zW, rfl⟩)))⟩ | exact ⟨_, _, _, Or.inr (Or.inr (Or.inr (Or.inr (Or.inl ⟨by omega, by omega, zJ, fun q => absurd q (by omega), rfl⟩))))⟩ | exact ⟨_, _, _, Or.inr (Or.inr (Or.inr (Or.inr (Or.inr (Or.inl ⟨by omega, by omega, zS, rfl, rfl⟩)))))⟩ | exact ⟨0, 0, 0, Or.inr (Or.inl ⟨by omega, by omega, by omega⟩)⟩ | exact ⟨0, 0, 0, Or.inr (Or.inr (Or.inr (Or.inr (Or.inr (Or.inr ⟨by omega, by omega, by omega, by omega, by omega, by omega⟩)))))⟩ | (exfalso; omega) | omega) (by first | exact Lo_h1191 | exact ⟨st.1, st.2.1, st.2.2.2.2⟩ | exact Or.inl ⟨by omega, zF, st.2.2.1, st.2.2.2.1⟩ | exact Or.inr (Or.inr (Or.inl ⟨by omega, by omega, zC, st.2.2.1, st.2.2.2.1⟩)) | exact Or.inr (Or.inr (Or.inr (Or.inl ⟨by omega, by omega, zW, st.2.2.2.1⟩))) | exact Or.inr (Or.inr (Or.inr (Or.inr (Or.inl ⟨by omega, by omega, zJ, fun _ => st.2.2.1, st.2.2.2.1⟩)))) | exact Or.inr (Or.inr (Or.inr (Or.inr (Or.inr (Or.inl ⟨by omega, by omega, zS, st.2.2.1, st.2.2.2.1⟩))))) | exact ⟨_, _, _, Or.inl ⟨by omega, zF, rfl, rfl⟩⟩ | exact ⟨_, _, _, Or.inr (Or.inr (Or.inl ⟨by omega, by omega, zC, rfl, rfl⟩))⟩ | exact ⟨_, _, _, Or.inr (Or.inr (Or.inr (Or.inl ⟨by omega, by omega, zW, rfl⟩)))⟩ | exact ⟨_, _, _, Or.inr (Or.inr (Or.inr (Or.inr (Or.inl ⟨by omega, by omega, zJ, fun q => absurd q (by omega), rfl⟩))))⟩ | exact ⟨_, _, _, Or.inr (Or.inr (Or.inr (Or.inr (Or.inr (Or.inl ⟨by omega, by omega, zS, rfl, rfl⟩)))))⟩ | exact ⟨0, 0, 0, Or.inr (Or.inl ⟨by omega, by omega, by omega⟩)⟩ | exact ⟨0, 0, 0, Or.inr (Or.inr (Or.inr (Or.inr (Or.inr (Or.inr ⟨by omega, by omega, by omega, by omega, by omega, by omega⟩)))))⟩ | (exfalso; omega) | omega) Ln_h1191 Sp_h1191 Al_h1191t1194 Cu_h1191t1195)
          ·
            show wp l rho (d + 7) 49 35 [(2, 82), (0, 1), (0, 1), (0, 0), (0, 0), (9, 0)] [(0, 1)] h Q
            rw [show wc ((8 : Nat) : Int) = 26801 from by decide] at xp1171
            refine w_istore (ls' := [(2, 82), (0, 1), (0, 1), (0, 0), (0, 0), (0, 1)]) gz_49_35 gm_49 rfl rfl rfl ?_
            refine w_iload_n gz_49_37 rfl ?_
            refine w_ifne (t := 65) gz_49_38 rfl (fun u1204 => ?_) (fun u1204 => by exfalso; omega)
            refine w_iload_n gz_49_65 rfl ?_
            refine w_ifne (t := 87) gz_49_66 rfl (fun u1205 => ?_) (fun u1205 => by exfalso; omega)
            refine w_aload_n gz_49_87 rfl ?_
            refine w_inv (k := 2) (as := []) (r := []) (x := 82) (ls0 := [(2, 82), (9, 0), (9, 0)]) gz_49_88 gm_37 rfl is_82 rd_5 rfl rfl rfl rfl rfl (c_Reader_nextToken9_f0 (d := (d + 5))  (cf.trans (by omega)) n_Al (fun h1206 frh1206 w1207 w1208 w1209 xp1210 xp1211 Al_h1206t1212 Cu_h1206t1213 => ?_))
            have gh1206 : my_fr [(4, 4), (4, 5), (4, 6), (4, 7), (4, 8), (4, 9), (5, 5), (5, 6), (5, 7), (5, 8), (5, 9), (32, -1), (33, -1), (34, -1), (35, -1), (36, -1), (37, -1), (38, -1), (39, -1)] h h1206 := my_fr.tr my_fr.rf (frh1206.mo rfl)
            have Ln_h1206 : Ln h1206 := Ln_ag (my_ag.fr frh1206 rfl) n_Ln
            have Sp_h1206 : Sp h1206 wv := Sp_ag (my_ag.fr frh1206 rfl) hwv n_Ln n_Sp
            have Lo_h1206 : Lo h h1206 := Lo_ag (my_ag.fr frh1206 rfl) n_Ln (Lo_rf)
            show wp l rho (d + 7) 49 91 [(2, 82), (0, 1), (0, 1), (0, 0), (0, 0), (0, 1)] [] h1206 Q
            have xc1214 := xp1210 n_Cu
            have ck1215 := Cu_s Cu_h1206t1213
            rw [show cs h1206 = cs h from cs_eq (fun j => my_fr.at gh1206 is_92 rfl) (my_fr.at gh1206 is_82 rfl)] at ck1215
            rw [show h1206 82 7 = (sN (cs h) (h 82 7)) from xc1214] at ck1215
            refine w_iload_n gz_49_91 rfl ?_
            refine w_ifeq (t := 102) gz_49_92 rfl (fun u1216 => by exfalso; omega) (fun u1216 => ?_)
            refine w_aload_n gz_49_95 rfl ?_
            refine w_inv (k := 2) (as := []) (r := []) (x := 82) (ls0 := [(2, 82), (9, 0), (9, 0)]) gz_49_96 gm_50 rfl is_82 rd_5 rfl rfl rfl rfl rfl (c_Reader_readFill9_f0 (d := (d + 3))  (((my_fr.at frh1206 is_82 rfl).trans cf).trans (by omega)) Al_h1206t1212 Cu_h1206t1213 (fun h1217 frh1217 w1218 w1219 xp1220 Al_h1217t1221 Cu_h1217t1222 => ?_) (fun h1223 frh1223 w1224 xp1225 Al_h1223t1226 Cu_h1223t1227 => ?_))
            ·
              have gh1217 : my_fr [(4, 4), (4, 5), (4, 6), (4, 7), (4, 8), (4, 9), (5, 5), (5, 6), (5, 7), (5, 8), (5, 9), (32, -1), (33, -1), (34, -1), (35, -1), (36, -1), (37, -1), (38, -1), (39, -1)] h h1217 := my_fr.tr gh1206 (frh1217.mo rfl)
              have Ln_h1217 : Ln h1217 := Ln_ag (my_ag.fr frh1217 rfl) Ln_h1206
              have Sp_h1217 : Sp h1217 wv := Sp_ag (my_ag.fr frh1217 rfl) hwv Ln_h1206 Sp_h1206
              have Lo_h1217 : Lo h h1217 := Lo_ag (my_ag.fr frh1217 rfl) Ln_h1206 Lo_h1206
              show wp l rho (d + 7) 49 99 [(2, 82), (0, 1), (0, 1), (0, 0), (0, 0), (0, 1)] [] h1217 Q
              have tE1228 : cs h1206 = cs h := cs_eq (fun j => my_fr.at gh1206 is_92 rfl) (my_fr.at gh1206 is_82 rfl)
              rw [tE1228] at xp1220
              have ps1229 : h1206 82 7 = (sN (cs h) (h 82 7)) := xc1214
              rw [ps1229] at xp1220
              have ck1230 := Cu_s Cu_h1217t1222
              rw [show cs h1217 = cs h from cs_eq (fun j => my_fr.at gh1217 is_92 rfl) (my_fr.at gh1217 is_82 rfl)] at ck1230
              have q2 : h1206 82 2 = h 82 2 := my_fr.at frh1206 is_82 rfl
              have q11 : h1206 (h 82 2) 1 = h (h 82 2) 1 := my_fr.at frh1206 n_Ln.2.2.2.1 rfl
              have q13 : h1206 (h 82 2) 3 = h (h 82 2) 3 := my_fr.at frh1206 n_Ln.2.2.2.1 rfl
              have q14 : h1206 (h 82 2) 4 = h (h 82 2) 4 := my_fr.at frh1206 n_Ln.2.2.2.1 rfl
              have q19 : h1206 (h 82 2) 9 = h (h 82 2) 9 := my_fr.at frh1206 n_Ln.2.2.2.1 rfl
              have qc : h1206 2 = h 2 := funext (fun j => my_fr.at frh1206 is_2 rfl)
              have zF := xp1220
              simp only [q2, q11, q13, q14, q19, qc] at zF
              have st : h1217 82 2 = h 82 2 ∧ h1217 (h 82 2) 3 = h (h 82 2) 3 ∧ h1217 (h 82 2) 4 = h (h 82 2) 4 ∧ h1217 (h 82 2) 9 = h (h 82 2) 9 ∧ h1217 (h 82 2) 1 = h (h 82 2) 1 := ⟨(my_fr.at frh1217 is_82 rfl).trans q2, (my_fr.at frh1217 n_Ln.2.2.2.1 rfl).trans q13, (my_fr.at frh1217 n_Ln.2.2.2.1 rfl).trans q14, (my_fr.at frh1217 n_Ln.2.2.2.1 rfl).trans q19, (my_fr.at frh1217 n_Ln.2.2.2.1 rfl).trans q11⟩
              refine w_goto (t := 140) gz_49_99 rfl ?_
              have psR : h1217 82 7 = h1217 82 7 := (rfl : h1217 82 7 = h1217 82 7)
              have npsR : cs h1217 = cs h := cs_eq (fun j => my_fr.at gh1217 is_92 rfl) (my_fr.at gh1217 is_82 rfl)
              have c1231 := (rfl : h1217 82 9 = h1217 82 9)
              exact w_vret gz_49_140 gm_49 (k0 h1217 (gh1217) (by omega) (by omega) (by first | exact Lo_h1217 | exact ⟨st.1, st.2.1, st.2.2.2.2⟩ | exact Or.inl ⟨by omega, zF, st.2.2.1, st.2.2.2.1⟩ | exact Or.inr (Or.inr (Or.inl ⟨by omega, by omega, zC, st.2.2.1, st.2.2.2.1⟩)) | exact Or.inr (Or.inr (Or.inr (Or.inl ⟨by omega, by omega, zW, st.2.2.2.1⟩))) | exact Or.inr (Or.inr (Or.inr (Or.inr (Or.inl ⟨by omega, by omega, zJ, fun _ => st.2.2.1, st.2.2.2.1⟩)))) | exact Or.inr (Or.inr (Or.inr (Or.inr (Or.inr (Or.inl ⟨by omega, by omega, zS, st.2.2.1, st.2.2.2.1⟩))))) | exact ⟨_, _, _, Or.inl ⟨by omega, zF, rfl, rfl⟩⟩ | exact ⟨_, _, _, Or.inr (Or.inr (Or.inl ⟨by omega, by omega, zC, rfl, rfl⟩))⟩ | exact ⟨_, _, _, Or.inr (Or.inr (Or.inr (Or.inl ⟨by omega, by omega, zW, rfl⟩)))⟩ | exact ⟨_, _, _, Or.inr (Or.inr (Or.inr (Or.inr (Or.inl ⟨by omega, by omega, zJ, fun q => absurd q (by omega), rfl⟩))))⟩ | exact ⟨_, _, _, Or.inr (Or.inr (Or.inr (Or.inr (Or.inr (Or.inl ⟨by omega, by omega, zS, rfl, rfl⟩)))))⟩ | exact ⟨0, 0, 0, Or.inr (Or.inl ⟨by omega, by omega, by omega⟩)⟩ | exact ⟨0, 0, 0, Or.inr (Or.inr (Or.inr (Or.inr (Or.inr (Or.inr ⟨by omega, by omega, by omega, by omega, by omega, by omega⟩)))))⟩ | (exfalso; omega) | omega) (by first | exact Lo_h1217 | exact ⟨st.1, st.2.1, st.2.2.2.2⟩ | exact Or.inl ⟨by omega, zF, st.2.2.1, st.2.2.2.1⟩ | exact Or.inr (Or.inr (Or.inl ⟨by omega, by omega, zC, st.2.2.1, st.2.2.2.1⟩)) | exact Or.inr (Or.inr (Or.inr (Or.inl ⟨by omega, by omega, zW, st.2.2.2.1⟩))) | exact Or.inr (Or.inr (Or.inr (Or.inr (Or.inl ⟨by omega, by omega, zJ, fun _ => st.2.2.1, st.2.2.2.1⟩)))) | exact Or.inr (Or.inr (Or.inr (Or.inr (Or.inr (Or.inl ⟨by omega, by omega, zS, st.2.2.1, st.2.2.2.1⟩))))) | exact ⟨_, _, _, Or.inl ⟨by omega, zF, rfl, rfl⟩⟩ | exact ⟨_, _, _, Or.inr (Or.inr (Or.inl ⟨by omega, by omega, zC, rfl, rfl⟩))⟩ | exact ⟨_, _, _, Or.inr (Or.inr (Or.inr (Or.inl ⟨by omega, by omega, zW, rfl⟩)))⟩ | exact ⟨_, _, _, Or.inr (Or.inr (Or.inr (Or.inr (Or.inl ⟨by omega, by omega, zJ, fun q => absurd q (by omega), rfl⟩))))⟩ | exact ⟨_, _, _, Or.inr (Or.inr (Or.inr (Or.inr (Or.inr (Or.inl ⟨by omega, by omega, zS, rfl, rfl⟩)))))⟩ | exact ⟨0, 0, 0, Or.inr (Or.inl ⟨by omega, by omega, by omega⟩)⟩ | exact ⟨0, 0, 0, Or.inr (Or.inr (Or.inr (Or.inr (Or.inr (Or.inr ⟨by omega, by omega, by omega, by omega, by omega, by omega⟩)))))⟩ | (exfalso; omega) | omega) Ln_h1217 Sp_h1217 Al_h1217t1221 Cu_h1217t1222)
            ·
              have gh1223 : my_fr [(4, 4), (4, 5), (4, 6), (4, 7), (4, 8), (4, 9), (5, 5), (5, 6), (5, 7), (5, 8), (5, 9), (32, -1), (33, -1), (34, -1), (35, -1), (36, -1), (37, -1), (38, -1), (39, -1)] h h1223 := my_fr.tr gh1206 (frh1223.mo rfl)
              have Ln_h1223 : Ln h1223 := Ln_ag (my_ag.fr frh1223 rfl) Ln_h1206
              have Sp_h1223 : Sp h1223 wv := Sp_ag (my_ag.fr frh1223 rfl) hwv Ln_h1206 Sp_h1206
              have Lo_h1223 : Lo h h1223 := Lo_ag (my_ag.fr frh1223 rfl) Ln_h1206 Lo_h1206
              show wp l rho (d + 7) 49 99 [(2, 82), (0, 1), (0, 1), (0, 0), (0, 0), (0, 1)] [] h1223 Q
              have tE1232 : cs h1206 = cs h := cs_eq (fun j => my_fr.at gh1206 is_92 rfl) (my_fr.at gh1206 is_82 rfl)
              rw [tE1232] at xp1225
              have ps1233 : h1206 82 7 = (sN (cs h) (h 82 7)) := xc1214
              rw [ps1233] at xp1225
              have ck1234 := Cu_s Cu_h1223t1227
              rw [show cs h1223 = cs h from cs_eq (fun j => my_fr.at gh1223 is_92 rfl) (my_fr.at gh1223 is_82 rfl)] at ck1234
              have q2 : h1206 82 2 = h 82 2 := my_fr.at frh1206 is_82 rfl
              have q11 : h1206 (h 82 2) 1 = h (h 82 2) 1 := my_fr.at frh1206 n_Ln.2.2.2.1 rfl
              have q13 : h1206 (h 82 2) 3 = h (h 82 2) 3 := my_fr.at frh1206 n_Ln.2.2.2.1 rfl
              have q14 : h1206 (h 82 2) 4 = h (h 82 2) 4 := my_fr.at frh1206 n_Ln.2.2.2.1 rfl
              have q19 : h1206 (h 82 2) 9 = h (h 82 2) 9 := my_fr.at frh1206 n_Ln.2.2.2.1 rfl
              have qc : h1206 2 = h 2 := funext (fun j => my_fr.at frh1206 is_2 rfl)
              have zF := xp1225
              simp only [q2, q11, q13, q14, q19, qc] at zF
              have st : h1223 82 2 = h 82 2 ∧ h1223 (h 82 2) 3 = h (h 82 2) 3 ∧ h1223 (h 82 2) 4 = h (h 82 2) 4 ∧ h1223 (h 82 2) 9 = h (h 82 2) 9 ∧ h1223 (h 82 2) 1 = h (h 82 2) 1 := ⟨(my_fr.at frh1223 is_82 rfl).trans q2, (my_fr.at frh1223 n_Ln.2.2.2.1 rfl).trans q13, (my_fr.at frh1223 n_Ln.2.2.2.1 rfl).trans q14, (my_fr.at frh1223 n_Ln.2.2.2.1 rfl).trans q19, (my_fr.at frh1223 n_Ln.2.2.2.1 rfl).trans q11⟩
              refine w_goto (t := 140) gz_49_99 rfl ?_
              have psR : h1223 82 7 = h1223 82 7 := (rfl : h1223 82 7 = h1223 82 7)
              have npsR : cs h1223 = cs h := cs_eq (fun j => my_fr.at gh1223 is_92 rfl) (my_fr.at gh1223 is_82 rfl)
              have c1235 := w1224
              exact w_vret gz_49_140 gm_49 (k1 h1223 (gh1223) (by omega) (by first | exact Lo_h1223 | exact ⟨st.1, st.2.1, st.2.2.2.2⟩ | exact Or.inl ⟨by omega, zF, st.2.2.1, st.2.2.2.1⟩ | exact Or.inr (Or.inr (Or.inl ⟨by omega, by omega, zC, st.2.2.1, st.2.2.2.1⟩)) | exact Or.inr (Or.inr (Or.inr (Or.inl ⟨by omega, by omega, zW, st.2.2.2.1⟩))) | exact Or.inr (Or.inr (Or.inr (Or.inr (Or.inl ⟨by omega, by omega, zJ, fun _ => st.2.2.1, st.2.2.2.1⟩)))) | exact Or.inr (Or.inr (Or.inr (Or.inr (Or.inr (Or.inl ⟨by omega, by omega, zS, st.2.2.1, st.2.2.2.1⟩))))) | exact ⟨_, _, _, Or.inl ⟨by omega, zF, rfl, rfl⟩⟩ | exact ⟨_, _, _, Or.inr (Or.inr (Or.inl ⟨by omega, by omega, zC, rfl, rfl⟩))⟩ | exact ⟨_, _, _, Or.inr (Or.inr (Or.inr (Or.inl ⟨by omega, by omega, zW, rfl⟩)))⟩ | exact ⟨_, _, _, Or.inr (Or.inr (Or.inr (Or.inr (Or.inl ⟨by omega, by omega, zJ, fun q => absurd q (by omega), rfl⟩))))⟩ | exact ⟨_, _, _, Or.inr (Or.inr (Or.inr (Or.inr (Or.inr (Or.inl ⟨by omega, by omega, zS, rfl, rfl⟩)))))⟩ | exact ⟨0, 0, 0, Or.inr (Or.inl ⟨by omega, by omega, by omega⟩)⟩ | exact ⟨0, 0, 0, Or.inr (Or.inr (Or.inr (Or.inr (Or.inr (Or.inr ⟨by omega, by omega, by omega, by omega, by omega, by omega⟩)))))⟩ | (exfalso; omega) | omega) (by first | exact Lo_h1223 | exact ⟨st.1, st.2.1, st.2.2.2.2⟩ | exact Or.inl ⟨by omega, zF, st.2.2.1, st.2.2.2.1⟩ | exact Or.inr (Or.inr (Or.inl ⟨by omega, by omega, zC, st.2.2.1, st.2.2.2.1⟩)) | exact Or.inr (Or.inr (Or.inr (Or.inl ⟨by omega, by omega, zW, st.2.2.2.1⟩))) | exact Or.inr (Or.inr (Or.inr (Or.inr (Or.inl ⟨by omega, by omega, zJ, fun _ => st.2.2.1, st.2.2.2.1⟩)))) | exact Or.inr (Or.inr (Or.inr (Or.inr (Or.inr (Or.inl ⟨by omega, by omega, zS, st.2.2.1, st.2.2.2.1⟩))))) | exact ⟨_, _, _, Or.inl ⟨by omega, zF, rfl, rfl⟩⟩ | exact ⟨_, _, _, Or.inr (Or.inr (Or.inl ⟨by omega, by omega, zC, rfl, rfl⟩))⟩ | exact ⟨_, _, _, Or.inr (Or.inr (Or.inr (Or.inl ⟨by omega, by omega, zW, rfl⟩)))⟩ | exact ⟨_, _, _, Or.inr (Or.inr (Or.inr (Or.inr (Or.inl ⟨by omega, by omega, zJ, fun q => absurd q (by omega), rfl⟩))))⟩ | exact ⟨_, _, _, Or.inr (Or.inr (Or.inr (Or.inr (Or.inr (Or.inl ⟨by omega, by omega, zS, rfl, rfl⟩)))))⟩ | exact ⟨0, 0, 0, Or.inr (Or.inl ⟨by omega, by omega, by omega⟩)⟩ | exact ⟨0, 0, 0, Or.inr (Or.inr (Or.inr (Or.inr (Or.inr (Or.inr ⟨by omega, by omega, by omega, by omega, by omega, by omega⟩)))))⟩ | (exfalso; omega) | omega) (by first | exact Lo_h1223 | exact ⟨st.1, st.2.1, st.2.2.2.2⟩ | exact Or.inl ⟨by omega, zF, st.2.2.1, st.2.2.2.1⟩ | exact Or.inr (Or.inr (Or.inl ⟨by omega, by omega, zC, st.2.2.1, st.2.2.2.1⟩)) | exact Or.inr (Or.inr (Or.inr (Or.inl ⟨by omega, by omega, zW, st.2.2.2.1⟩))) | exact Or.inr (Or.inr (Or.inr (Or.inr (Or.inl ⟨by omega, by omega, zJ, fun _ => st.2.2.1, st.2.2.2.1⟩)))) | exact Or.inr (Or.inr (Or.inr (Or.inr (Or.inr (Or.inl ⟨by omega, by omega, zS, st.2.2.1, st.2.2.2.1⟩))))) | exact ⟨_, _, _, Or.inl ⟨by omega, zF, rfl, rfl⟩⟩ | exact ⟨_, _, _, Or.inr (Or.inr (Or.inl ⟨by omega, by omega, zC, rfl, rfl⟩))⟩ | exact ⟨_, _, _, Or.inr (Or.inr (Or.inr (Or.inl ⟨by omega, by omega, zW, rfl⟩)))⟩ | exact ⟨_, _, _, Or.inr (Or.inr (Or.inr (Or.inr (Or.inl ⟨by omega, by omega, zJ, fun q => absurd q (by omega), rfl⟩))))⟩ | exact ⟨_, _, _, Or.inr (Or.inr (Or.inr (Or.inr (Or.inr (Or.inl ⟨by omega, by omega, zS, rfl, rfl⟩)))))⟩ | exact ⟨0, 0, 0, Or.inr (Or.inl ⟨by omega, by omega, by omega⟩)⟩ | exact ⟨0, 0, 0, Or.inr (Or.inr (Or.inr (Or.inr (Or.inr (Or.inr ⟨by omega, by omega, by omega, by omega, by omega, by omega⟩)))))⟩ | (exfalso; omega) | omega) Ln_h1223 Sp_h1223 Al_h1223t1226 Cu_h1223t1227)
        ·
          show wp l rho (d + 7) 49 27 [(2, 82), (0, 1), (0, 1), (0, 0), (9, 0), (9, 0)] [(0, 1)] h Q
          rw [show wc ((7 : Nat) : Int) = 527412 from by decide] at xp1166
          refine w_istore (ls' := [(2, 82), (0, 1), (0, 1), (0, 0), (0, 1), (9, 0)]) gz_49_27 gm_49 rfl rfl rfl ?_
          refine w_aload_n gz_49_29 rfl ?_
          refine w_ldcS gz_49_30 (by decide) ?_
          refine w_inv (k := 1) (as := [(3, ((8 : Nat) : Int))]) (r := []) (x := 82) (ls0 := [(2, 82), (3, ((8 : Nat) : Int)), (9, 0)]) gz_49_32 gm_41 rfl is_82 rd_5 rfl rfl rfl rfl rfl (c_Reader_isWord9_f0 (d := (d + 2)) (x1 := ((8 : Nat) : Int)) (by decide) (cf.trans (by omega)) n_Cu (fun w1236 xp1237 => ?_) (fun w1238 w1239 xp1240 => ?_))
          ·
            show wp l rho (d + 7) 49 35 [(2, 82), (0, 1), (0, 1), (0, 0), (0, 1), (9, 0)] [(0, 0)] h Q
            rw [show wc ((8 : Nat) : Int) = 26801 from by decide] at xp1237
            refine w_istore (ls' := [(2, 82), (0, 1), (0, 1), (0, 0), (0, 1), (0, 0)]) gz_49_35 gm_49 rfl rfl rfl ?_
            refine w_iload_n gz_49_37 rfl ?_
            refine w_ifne (t := 65) gz_49_38 rfl (fun u1241 => ?_) (fun u1241 => by exfalso; omega)
            refine w_iload_n gz_49_65 rfl ?_
            refine w_ifne (t := 87) gz_49_66 rfl (fun u1242 => ?_) (fun u1242 => by exfalso; omega)
            refine w_aload_n gz_49_87 rfl ?_
            refine w_inv (k := 2) (as := []) (r := []) (x := 82) (ls0 := [(2, 82), (9, 0), (9, 0)]) gz_49_88 gm_37 rfl is_82 rd_5 rfl rfl rfl rfl rfl (c_Reader_nextToken9_f0 (d := (d + 5))  (cf.trans (by omega)) n_Al (fun h1243 frh1243 w1244 w1245 w1246 xp1247 xp1248 Al_h1243t1249 Cu_h1243t1250 => ?_))
            have gh1243 : my_fr [(4, 4), (4, 5), (4, 6), (4, 7), (4, 8), (4, 9), (5, 5), (5, 6), (5, 7), (5, 8), (5, 9), (32, -1), (33, -1), (34, -1), (35, -1), (36, -1), (37, -1), (38, -1), (39, -1)] h h1243 := my_fr.tr my_fr.rf (frh1243.mo rfl)
            have Ln_h1243 : Ln h1243 := Ln_ag (my_ag.fr frh1243 rfl) n_Ln
            have Sp_h1243 : Sp h1243 wv := Sp_ag (my_ag.fr frh1243 rfl) hwv n_Ln n_Sp
            have Lo_h1243 : Lo h h1243 := Lo_ag (my_ag.fr frh1243 rfl) n_Ln (Lo_rf)
            show wp l rho (d + 7) 49 91 [(2, 82), (0, 1), (0, 1), (0, 0), (0, 1), (0, 0)] [] h1243 Q
            have xc1251 := xp1247 n_Cu
            have ck1252 := Cu_s Cu_h1243t1250
            rw [show cs h1243 = cs h from cs_eq (fun j => my_fr.at gh1243 is_92 rfl) (my_fr.at gh1243 is_82 rfl)] at ck1252
            rw [show h1243 82 7 = (sN (cs h) (h 82 7)) from xc1251] at ck1252
            refine w_iload_n gz_49_91 rfl ?_
            refine w_ifeq (t := 102) gz_49_92 rfl (fun u1253 => by exfalso; omega) (fun u1253 => ?_)
            refine w_aload_n gz_49_95 rfl ?_
            refine w_inv (k := 2) (as := []) (r := []) (x := 82) (ls0 := [(2, 82), (9, 0), (9, 0)]) gz_49_96 gm_50 rfl is_82 rd_5 rfl rfl rfl rfl rfl (c_Reader_readFill9_f0 (d := (d + 3))  (((my_fr.at frh1243 is_82 rfl).trans cf).trans (by omega)) Al_h1243t1249 Cu_h1243t1250 (fun h1254 frh1254 w1255 w1256 xp1257 Al_h1254t1258 Cu_h1254t1259 => ?_) (fun h1260 frh1260 w1261 xp1262 Al_h1260t1263 Cu_h1260t1264 => ?_))
            ·
              have gh1254 : my_fr [(4, 4), (4, 5), (4, 6), (4, 7), (4, 8), (4, 9), (5, 5), (5, 6), (5, 7), (5, 8), (5, 9), (32, -1), (33, -1), (34, -1), (35, -1), (36, -1), (37, -1), (38, -1), (39, -1)] h h1254 := my_fr.tr gh1243 (frh1254.mo rfl)
              have Ln_h1254 : Ln h1254 := Ln_ag (my_ag.fr frh1254 rfl) Ln_h1243
              have Sp_h1254 : Sp h1254 wv := Sp_ag (my_ag.fr frh1254 rfl) hwv Ln_h1243 Sp_h1243
              have Lo_h1254 : Lo h h1254 := Lo_ag (my_ag.fr frh1254 rfl) Ln_h1243 Lo_h1243
              show wp l rho (d + 7) 49 99 [(2, 82), (0, 1), (0, 1), (0, 0), (0, 1), (0, 0)] [] h1254 Q
              have tE1265 : cs h1243 = cs h := cs_eq (fun j => my_fr.at gh1243 is_92 rfl) (my_fr.at gh1243 is_82 rfl)
              rw [tE1265] at xp1257
              have ps1266 : h1243 82 7 = (sN (cs h) (h 82 7)) := xc1251
              rw [ps1266] at xp1257
              have ck1267 := Cu_s Cu_h1254t1259
              rw [show cs h1254 = cs h from cs_eq (fun j => my_fr.at gh1254 is_92 rfl) (my_fr.at gh1254 is_82 rfl)] at ck1267
              have q2 : h1243 82 2 = h 82 2 := my_fr.at frh1243 is_82 rfl
              have q11 : h1243 (h 82 2) 1 = h (h 82 2) 1 := my_fr.at frh1243 n_Ln.2.2.2.1 rfl
              have q13 : h1243 (h 82 2) 3 = h (h 82 2) 3 := my_fr.at frh1243 n_Ln.2.2.2.1 rfl
              have q14 : h1243 (h 82 2) 4 = h (h 82 2) 4 := my_fr.at frh1243 n_Ln.2.2.2.1 rfl
              have q19 : h1243 (h 82 2) 9 = h (h 82 2) 9 := my_fr.at frh1243 n_Ln.2.2.2.1 rfl
              have qc : h1243 2 = h 2 := funext (fun j => my_fr.at frh1243 is_2 rfl)
              have zF := xp1257
              simp only [q2, q11, q13, q14, q19, qc] at zF
              have st : h1254 82 2 = h 82 2 ∧ h1254 (h 82 2) 3 = h (h 82 2) 3 ∧ h1254 (h 82 2) 4 = h (h 82 2) 4 ∧ h1254 (h 82 2) 9 = h (h 82 2) 9 ∧ h1254 (h 82 2) 1 = h (h 82 2) 1 := ⟨(my_fr.at frh1254 is_82 rfl).trans q2, (my_fr.at frh1254 n_Ln.2.2.2.1 rfl).trans q13, (my_fr.at frh1254 n_Ln.2.2.2.1 rfl).trans q14, (my_fr.at frh1254 n_Ln.2.2.2.1 rfl).trans q19, (my_fr.at frh1254 n_Ln.2.2.2.1 rfl).trans q11⟩
              refine w_goto (t := 140) gz_49_99 rfl ?_
              have psR : h1254 82 7 = h1254 82 7 := (rfl : h1254 82 7 = h1254 82 7)
              have npsR : cs h1254 = cs h := cs_eq (fun j => my_fr.at gh1254 is_92 rfl) (my_fr.at gh1254 is_82 rfl)
              have c1268 := (rfl : h1254 82 9 = h1254 82 9)
              exact w_vret gz_49_140 gm_49 (k0 h1254 (gh1254) (by omega) (by omega) (by first | exact Lo_h1254 | exact ⟨st.1, st.2.1, st.2.2.2.2⟩ | exact Or.inl ⟨by omega, zF, st.2.2.1, st.2.2.2.1⟩ | exact Or.inr (Or.inr (Or.inl ⟨by omega, by omega, zC, st.2.2.1, st.2.2.2.1⟩)) | exact Or.inr (Or.inr (Or.inr (Or.inl ⟨by omega, by omega, zW, st.2.2.2.1⟩))) | exact Or.inr (Or.inr (Or.inr (Or.inr (Or.inl ⟨by omega, by omega, zJ, fun _ => st.2.2.1, st.2.2.2.1⟩)))) | exact Or.inr (Or.inr (Or.inr (Or.inr (Or.inr (Or.inl ⟨by omega, by omega, zS, st.2.2.1, st.2.2.2.1⟩))))) | exact ⟨_, _, _, Or.inl ⟨by omega, zF, rfl, rfl⟩⟩ | exact ⟨_, _, _, Or.inr (Or.inr (Or.inl ⟨by omega, by omega, zC, rfl, rfl⟩))⟩ | exact ⟨_, _, _, Or.inr (Or.inr (Or.inr (Or.inl ⟨by omega, by omega, zW, rfl⟩)))⟩ | exact ⟨_, _, _, Or.inr (Or.inr (Or.inr (Or.inr (Or.inl ⟨by omega, by omega, zJ, fun q => absurd q (by omega), rfl⟩))))⟩ | exact ⟨_, _, _, Or.inr (Or.inr (Or.inr (Or.inr (Or.inr (Or.inl ⟨by omega, by omega, zS, rfl, rfl⟩)))))⟩ | exact ⟨0, 0, 0, Or.inr (Or.inl ⟨by omega, by omega, by omega⟩)⟩ | exact ⟨0, 0, 0, Or.inr (Or.inr (Or.inr (Or.inr (Or.inr (Or.inr ⟨by omega, by omega, by omega, by omega, by omega, by omega⟩)))))⟩ | (exfalso; omega) | omega) (by first | exact Lo_h1254 | exact ⟨st.1, st.2.1, st.2.2.2.2⟩ | exact Or.inl ⟨by omega, zF, st.2.2.1, st.2.2.2.1⟩ | exact Or.inr (Or.inr (Or.inl ⟨by omega, by omega, zC, st.2.2.1, st.2.2.2.1⟩)) | exact Or.inr (Or.inr (Or.inr (Or.inl ⟨by omega, by omega, zW, st.2.2.2.1⟩))) | exact Or.inr (Or.inr (Or.inr (Or.inr (Or.inl ⟨by omega, by omega, zJ, fun _ => st.2.2.1, st.2.2.2.1⟩)))) | exact Or.inr (Or.inr (Or.inr (Or.inr (Or.inr (Or.inl ⟨by omega, by omega, zS, st.2.2.1, st.2.2.2.1⟩))))) | exact ⟨_, _, _, Or.inl ⟨by omega, zF, rfl, rfl⟩⟩ | exact ⟨_, _, _, Or.inr (Or.inr (Or.inl ⟨by omega, by omega, zC, rfl, rfl⟩))⟩ | exact ⟨_, _, _, Or.inr (Or.inr (Or.inr (Or.inl ⟨by omega, by omega, zW, rfl⟩)))⟩ | exact ⟨_, _, _, Or.inr (Or.inr (Or.inr (Or.inr (Or.inl ⟨by omega, by omega, zJ, fun q => absurd q (by omega), rfl⟩))))⟩ | exact ⟨_, _, _, Or.inr (Or.inr (Or.inr (Or.inr (Or.inr (Or.inl ⟨by omega, by omega, zS, rfl, rfl⟩)))))⟩ | exact ⟨0, 0, 0, Or.inr (Or.inl ⟨by omega, by omega, by omega⟩)⟩ | exact ⟨0, 0, 0, Or.inr (Or.inr (Or.inr (Or.inr (Or.inr (Or.inr ⟨by omega, by omega, by omega, by omega, by omega, by omega⟩)))))⟩ | (exfalso; omega) | omega) Ln_h1254 Sp_h1254 Al_h1254t1258 Cu_h1254t1259)
            ·
              have gh1260 : my_fr [(4, 4), (4, 5), (4, 6), (4, 7), (4, 8), (4, 9), (5, 5), (5, 6), (5, 7), (5, 8), (5, 9), (32, -1), (33, -1), (34, -1), (35, -1), (36, -1), (37, -1), (38, -1), (39, -1)] h h1260 := my_fr.tr gh1243 (frh1260.mo rfl)
              have Ln_h1260 : Ln h1260 := Ln_ag (my_ag.fr frh1260 rfl) Ln_h1243
              have Sp_h1260 : Sp h1260 wv := Sp_ag (my_ag.fr frh1260 rfl) hwv Ln_h1243 Sp_h1243
              have Lo_h1260 : Lo h h1260 := Lo_ag (my_ag.fr frh1260 rfl) Ln_h1243 Lo_h1243
              show wp l rho (d + 7) 49 99 [(2, 82), (0, 1), (0, 1), (0, 0), (0, 1), (0, 0)] [] h1260 Q
              have tE1269 : cs h1243 = cs h := cs_eq (fun j => my_fr.at gh1243 is_92 rfl) (my_fr.at gh1243 is_82 rfl)
              rw [tE1269] at xp1262
              have ps1270 : h1243 82 7 = (sN (cs h) (h 82 7)) := xc1251
              rw [ps1270] at xp1262
              have ck1271 := Cu_s Cu_h1260t1264
              rw [show cs h1260 = cs h from cs_eq (fun j => my_fr.at gh1260 is_92 rfl) (my_fr.at gh1260 is_82 rfl)] at ck1271
              have q2 : h1243 82 2 = h 82 2 := my_fr.at frh1243 is_82 rfl
              have q11 : h1243 (h 82 2) 1 = h (h 82 2) 1 := my_fr.at frh1243 n_Ln.2.2.2.1 rfl
              have q13 : h1243 (h 82 2) 3 = h (h 82 2) 3 := my_fr.at frh1243 n_Ln.2.2.2.1 rfl
              have q14 : h1243 (h 82 2) 4 = h (h 82 2) 4 := my_fr.at frh1243 n_Ln.2.2.2.1 rfl
              have q19 : h1243 (h 82 2) 9 = h (h 82 2) 9 := my_fr.at frh1243 n_Ln.2.2.2.1 rfl
              have qc : h1243 2 = h 2 := funext (fun j => my_fr.at frh1243 is_2 rfl)
              have zF := xp1262
              simp only [q2, q11, q13, q14, q19, qc] at zF
              have st : h1260 82 2 = h 82 2 ∧ h1260 (h 82 2) 3 = h (h 82 2) 3 ∧ h1260 (h 82 2) 4 = h (h 82 2) 4 ∧ h1260 (h 82 2) 9 = h (h 82 2) 9 ∧ h1260 (h 82 2) 1 = h (h 82 2) 1 := ⟨(my_fr.at frh1260 is_82 rfl).trans q2, (my_fr.at frh1260 n_Ln.2.2.2.1 rfl).trans q13, (my_fr.at frh1260 n_Ln.2.2.2.1 rfl).trans q14, (my_fr.at frh1260 n_Ln.2.2.2.1 rfl).trans q19, (my_fr.at frh1260 n_Ln.2.2.2.1 rfl).trans q11⟩
              refine w_goto (t := 140) gz_49_99 rfl ?_
              have psR : h1260 82 7 = h1260 82 7 := (rfl : h1260 82 7 = h1260 82 7)
              have npsR : cs h1260 = cs h := cs_eq (fun j => my_fr.at gh1260 is_92 rfl) (my_fr.at gh1260 is_82 rfl)
              have c1272 := w1261
              exact w_vret gz_49_140 gm_49 (k1 h1260 (gh1260) (by omega) (by first | exact Lo_h1260 | exact ⟨st.1, st.2.1, st.2.2.2.2⟩ | exact Or.inl ⟨by omega, zF, st.2.2.1, st.2.2.2.1⟩ | exact Or.inr (Or.inr (Or.inl ⟨by omega, by omega, zC, st.2.2.1, st.2.2.2.1⟩)) | exact Or.inr (Or.inr (Or.inr (Or.inl ⟨by omega, by omega, zW, st.2.2.2.1⟩))) | exact Or.inr (Or.inr (Or.inr (Or.inr (Or.inl ⟨by omega, by omega, zJ, fun _ => st.2.2.1, st.2.2.2.1⟩)))) | exact Or.inr (Or.inr (Or.inr (Or.inr (Or.inr (Or.inl ⟨by omega, by omega, zS, st.2.2.1, st.2.2.2.1⟩))))) | exact ⟨_, _, _, Or.inl ⟨by omega, zF, rfl, rfl⟩⟩ | exact ⟨_, _, _, Or.inr (Or.inr (Or.inl ⟨by omega, by omega, zC, rfl, rfl⟩))⟩ | exact ⟨_, _, _, Or.inr (Or.inr (Or.inr (Or.inl ⟨by omega, by omega, zW, rfl⟩)))⟩ | exact ⟨_, _, _, Or.inr (Or.inr (Or.inr (Or.inr (Or.inl ⟨by omega, by omega, zJ, fun q => absurd q (by omega), rfl⟩))))⟩ | exact ⟨_, _, _, Or.inr (Or.inr (Or.inr (Or.inr (Or.inr (Or.inl ⟨by omega, by omega, zS, rfl, rfl⟩)))))⟩ | exact ⟨0, 0, 0, Or.inr (Or.inl ⟨by omega, by omega, by omega⟩)⟩ | exact ⟨0, 0, 0, Or.inr (Or.inr (Or.inr (Or.inr (Or.inr (Or.inr ⟨by omega, by omega, by omega, by omega, by omega, by omega⟩)))))⟩ | (exfalso; omega) | omega) (by first | exact Lo_h1260 | exact ⟨st.1, st.2.1, st.2.2.2.2⟩ | exact Or.inl ⟨by omega, zF, st.2.2.1, st.2.2.2.1⟩ | exact Or.inr (Or.inr (Or.inl ⟨by omega, by omega, zC, st.2.2.1, st.2.2.2.1⟩)) | exact Or.inr (Or.inr (Or.inr (Or.inl ⟨by omega, by omega, zW, st.2.2.2.1⟩))) | exact Or.inr (Or.inr (Or.inr (Or.inr (Or.inl ⟨by omega, by omega, zJ, fun _ => st.2.2.1, st.2.2.2.1⟩)))) | exact Or.inr (Or.inr (Or.inr (Or.inr (Or.inr (Or.inl ⟨by omega, by omega, zS, st.2.2.1, st.2.2.2.1⟩))))) | exact ⟨_, _, _, Or.inl ⟨by omega, zF, rfl, rfl⟩⟩ | exact ⟨_, _, _, Or.inr (Or.inr (Or.inl ⟨by omega, by omega, zC, rfl, rfl⟩))⟩ | exact ⟨_, _, _, Or.inr (Or.inr (Or.inr (Or.inl ⟨by omega, by omega, zW, rfl⟩)))⟩ | exact ⟨_, _, _, Or.inr (Or.inr (Or.inr (Or.inr (Or.inl ⟨by omega, by omega, zJ, fun q => absurd q (by omega), rfl⟩))))⟩ | exact ⟨_, _, _, Or.inr (Or.inr (Or.inr (Or.inr (Or.inr (Or.inl ⟨by omega, by omega, zS, rfl, rfl⟩)))))⟩ | exact ⟨0, 0, 0, Or.inr (Or.inl ⟨by omega, by omega, by omega⟩)⟩ | exact ⟨0, 0, 0, Or.inr (Or.inr (Or.inr (Or.inr (Or.inr (Or.inr ⟨by omega, by omega, by omega, by omega, by omega, by omega⟩)))))⟩ | (exfalso; omega) | omega) (by first | exact Lo_h1260 | exact ⟨st.1, st.2.1, st.2.2.2.2⟩ | exact Or.inl ⟨by omega, zF, st.2.2.1, st.2.2.2.1⟩ | exact Or.inr (Or.inr (Or.inl ⟨by omega, by omega, zC, st.2.2.1, st.2.2.2.1⟩)) | exact Or.inr (Or.inr (Or.inr (Or.inl ⟨by omega, by omega, zW, st.2.2.2.1⟩))) | exact Or.inr (Or.inr (Or.inr (Or.inr (Or.inl ⟨by omega, by omega, zJ, fun _ => st.2.2.1, st.2.2.2.1⟩)))) | exact Or.inr (Or.inr (Or.inr (Or.inr (Or.inr (Or.inl ⟨by omega, by omega, zS, st.2.2.1, st.2.2.2.1⟩))))) | exact ⟨_, _, _, Or.inl ⟨by omega, zF, rfl, rfl⟩⟩ | exact ⟨_, _, _, Or.inr (Or.inr (Or.inl ⟨by omega, by omega, zC, rfl, rfl⟩))⟩ | exact ⟨_, _, _, Or.inr (Or.inr (Or.inr (Or.inl ⟨by omega, by omega, zW, rfl⟩)))⟩ | exact ⟨_, _, _, Or.inr (Or.inr (Or.inr (Or.inr (Or.inl ⟨by omega, by omega, zJ, fun q => absurd q (by omega), rfl⟩))))⟩ | exact ⟨_, _, _, Or.inr (Or.inr (Or.inr (Or.inr (Or.inr (Or.inl ⟨by omega, by omega, zS, rfl, rfl⟩)))))⟩ | exact ⟨0, 0, 0, Or.inr (Or.inl ⟨by omega, by omega, by omega⟩)⟩ | exact ⟨0, 0, 0, Or.inr (Or.inr (Or.inr (Or.inr (Or.inr (Or.inr ⟨by omega, by omega, by omega, by omega, by omega, by omega⟩)))))⟩ | (exfalso; omega) | omega) Ln_h1260 Sp_h1260 Al_h1260t1263 Cu_h1260t1264)
          ·
            show wp l rho (d + 7) 49 35 [(2, 82), (0, 1), (0, 1), (0, 0), (0, 1), (9, 0)] [(0, 1)] h Q
            rw [show wc ((8 : Nat) : Int) = 26801 from by decide] at xp1240
            refine w_istore (ls' := [(2, 82), (0, 1), (0, 1), (0, 0), (0, 1), (0, 1)]) gz_49_35 gm_49 rfl rfl rfl ?_
            refine w_iload_n gz_49_37 rfl ?_
            refine w_ifne (t := 65) gz_49_38 rfl (fun u1273 => ?_) (fun u1273 => by exfalso; omega)
            refine w_iload_n gz_49_65 rfl ?_
            refine w_ifne (t := 87) gz_49_66 rfl (fun u1274 => ?_) (fun u1274 => by exfalso; omega)
            refine w_aload_n gz_49_87 rfl ?_
            refine w_inv (k := 2) (as := []) (r := []) (x := 82) (ls0 := [(2, 82), (9, 0), (9, 0)]) gz_49_88 gm_37 rfl is_82 rd_5 rfl rfl rfl rfl rfl (c_Reader_nextToken9_f0 (d := (d + 5))  (cf.trans (by omega)) n_Al (fun h1275 frh1275 w1276 w1277 w1278 xp1279 xp1280 Al_h1275t1281 Cu_h1275t1282 => ?_))
            have gh1275 : my_fr [(4, 4), (4, 5), (4, 6), (4, 7), (4, 8), (4, 9), (5, 5), (5, 6), (5, 7), (5, 8), (5, 9), (32, -1), (33, -1), (34, -1), (35, -1), (36, -1), (37, -1), (38, -1), (39, -1)] h h1275 := my_fr.tr my_fr.rf (frh1275.mo rfl)
            have Ln_h1275 : Ln h1275 := Ln_ag (my_ag.fr frh1275 rfl) n_Ln
            have Sp_h1275 : Sp h1275 wv := Sp_ag (my_ag.fr frh1275 rfl) hwv n_Ln n_Sp
            have Lo_h1275 : Lo h h1275 := Lo_ag (my_ag.fr frh1275 rfl) n_Ln (Lo_rf)
            show wp l rho (d + 7) 49 91 [(2, 82), (0, 1), (0, 1), (0, 0), (0, 1), (0, 1)] [] h1275 Q
            have xc1283 := xp1279 n_Cu
            have ck1284 := Cu_s Cu_h1275t1282
            rw [show cs h1275 = cs h from cs_eq (fun j => my_fr.at gh1275 is_92 rfl) (my_fr.at gh1275 is_82 rfl)] at ck1284
            rw [show h1275 82 7 = (sN (cs h) (h 82 7)) from xc1283] at ck1284
            refine w_iload_n gz_49_91 rfl ?_
            refine w_ifeq (t := 102) gz_49_92 rfl (fun u1285 => by exfalso; omega) (fun u1285 => ?_)
            refine w_aload_n gz_49_95 rfl ?_
            refine w_inv (k := 2) (as := []) (r := []) (x := 82) (ls0 := [(2, 82), (9, 0), (9, 0)]) gz_49_96 gm_50 rfl is_82 rd_5 rfl rfl rfl rfl rfl (c_Reader_readFill9_f0 (d := (d + 3))  (((my_fr.at frh1275 is_82 rfl).trans cf).trans (by omega)) Al_h1275t1281 Cu_h1275t1282 (fun h1286 frh1286 w1287 w1288 xp1289 Al_h1286t1290 Cu_h1286t1291 => ?_) (fun h1292 frh1292 w1293 xp1294 Al_h1292t1295 Cu_h1292t1296 => ?_))
            ·
              have gh1286 : my_fr [(4, 4), (4, 5), (4, 6), (4, 7), (4, 8), (4, 9), (5, 5), (5, 6), (5, 7), (5, 8), (5, 9), (32, -1), (33, -1), (34, -1), (35, -1), (36, -1), (37, -1), (38, -1), (39, -1)] h h1286 := my_fr.tr gh1275 (frh1286.mo rfl)
              have Ln_h1286 : Ln h1286 := Ln_ag (my_ag.fr frh1286 rfl) Ln_h1275
              have Sp_h1286 : Sp h1286 wv := Sp_ag (my_ag.fr frh1286 rfl) hwv Ln_h1275 Sp_h1275
              have Lo_h1286 : Lo h h1286 := Lo_ag (my_ag.fr frh1286 rfl) Ln_h1275 Lo_h1275
              show wp l rho (d + 7) 49 99 [(2, 82), (0, 1), (0, 1), (0, 0), (0, 1), (0, 1)] [] h1286 Q
              have tE1297 : cs h1275 = cs h := cs_eq (fun j => my_fr.at gh1275 is_92 rfl) (my_fr.at gh1275 is_82 rfl)
              rw [tE1297] at xp1289
              have ps1298 : h1275 82 7 = (sN (cs h) (h 82 7)) := xc1283
              rw [ps1298] at xp1289
              have ck1299 := Cu_s Cu_h1286t1291
              rw [show cs h1286 = cs h from cs_eq (fun j => my_fr.at gh1286 is_92 rfl) (my_fr.at gh1286 is_82 rfl)] at ck1299
              have q2 : h1275 82 2 = h 82 2 := my_fr.at frh1275 is_82 rfl
              have q11 : h1275 (h 82 2) 1 = h (h 82 2) 1 := my_fr.at frh1275 n_Ln.2.2.2.1 rfl
              have q13 : h1275 (h 82 2) 3 = h (h 82 2) 3 := my_fr.at frh1275 n_Ln.2.2.2.1 rfl
              have q14 : h1275 (h 82 2) 4 = h (h 82 2) 4 := my_fr.at frh1275 n_Ln.2.2.2.1 rfl
              have q19 : h1275 (h 82 2) 9 = h (h 82 2) 9 := my_fr.at frh1275 n_Ln.2.2.2.1 rfl
              have qc : h1275 2 = h 2 := funext (fun j => my_fr.at frh1275 is_2 rfl)
              have zF := xp1289
              simp only [q2, q11, q13, q14, q19, qc] at zF
              have st : h1286 82 2 = h 82 2 ∧ h1286 (h 82 2) 3 = h (h 82 2) 3 ∧ h1286 (h 82 2) 4 = h (h 82 2) 4 ∧ h1286 (h 82 2) 9 = h (h 82 2) 9 ∧ h1286 (h 82 2) 1 = h (h 82 2) 1 := ⟨(my_fr.at frh1286 is_82 rfl).trans q2, (my_fr.at frh1286 n_Ln.2.2.2.1 rfl).trans q13, (my_fr.at frh1286 n_Ln.2.2.2.1 rfl).trans q14, (my_fr.at frh1286 n_Ln.2.2.2.1 rfl).trans q19, (my_fr.at frh1286 n_Ln.2.2.2.1 rfl).trans q11⟩
              refine w_goto (t := 140) gz_49_99 rfl ?_
              have psR : h1286 82 7 = h1286 82 7 := (rfl : h1286 82 7 = h1286 82 7)
              have npsR : cs h1286 = cs h := cs_eq (fun j => my_fr.at gh1286 is_92 rfl) (my_fr.at gh1286 is_82 rfl)
              have c1300 := (rfl : h1286 82 9 = h1286 82 9)
              exact w_vret gz_49_140 gm_49 (k0 h1286 (gh1286) (by omega) (by omega) (by first | exact Lo_h1286 | exact ⟨st.1, st.2.1, st.2.2.2.2⟩ | exact Or.inl ⟨by omega, zF, st.2.2.1, st.2.2.2.1⟩ | exact Or.inr (Or.inr (Or.inl ⟨by omega, by omega, zC, st.2.2.1, st.2.2.2.1⟩)) | exact Or.inr (Or.inr (Or.inr (Or.inl ⟨by omega, by omega, zW, st.2.2.2.1⟩))) | exact Or.inr (Or.inr (Or.inr (Or.inr (Or.inl ⟨by omega, by omega, zJ, fun _ => st.2.2.1, st.2.2.2.1⟩)))) | exact Or.inr (Or.inr (Or.inr (Or.inr (Or.inr (Or.inl ⟨by omega, by omega, zS, st.2.2.1, st.2.2.2.1⟩))))) | exact ⟨_, _, _, Or.inl ⟨by omega, zF, rfl, rfl⟩⟩ | exact ⟨_, _, _, Or.inr (Or.inr (Or.inl ⟨by omega, by omega, zC, rfl, rfl⟩))⟩ | exact ⟨_, _, _, Or.inr (Or.inr (Or.inr (Or.inl ⟨by omega, by omega, zW, rfl⟩)))⟩ | exact ⟨_, _, _, Or.inr (Or.inr (Or.inr (Or.inr (Or.inl ⟨by omega, by omega, zJ, fun q => absurd q (by omega), rfl⟩))))⟩ | exact ⟨_, _, _, Or.inr (Or.inr (Or.inr (Or.inr (Or.inr (Or.inl ⟨by omega, by omega, zS, rfl, rfl⟩)))))⟩ | exact ⟨0, 0, 0, Or.inr (Or.inl ⟨by omega, by omega, by omega⟩)⟩ | exact ⟨0, 0, 0, Or.inr (Or.inr (Or.inr (Or.inr (Or.inr (Or.inr ⟨by omega, by omega, by omega, by omega, by omega, by omega⟩)))))⟩ | (exfalso; omega) | omega) (by first | exact Lo_h1286 | exact ⟨st.1, st.2.1, st.2.2.2.2⟩ | exact Or.inl ⟨by omega, zF, st.2.2.1, st.2.2.2.1⟩ | exact Or.inr (Or.inr (Or.inl ⟨by omega, by omega, zC, st.2.2.1, st.2.2.2.1⟩)) | exact Or.inr (Or.inr (Or.inr (Or.inl ⟨by omega, by omega, zW, st.2.2.2.1⟩))) | exact Or.inr (Or.inr (Or.inr (Or.inr (Or.inl ⟨by omega, by omega, zJ, fun _ => st.2.2.1, st.2.2.2.1⟩)))) | exact Or.inr (Or.inr (Or.inr (Or.inr (Or.inr (Or.inl ⟨by omega, by omega, zS, st.2.2.1, st.2.2.2.1⟩))))) | exact ⟨_, _, _, Or.inl ⟨by omega, zF, rfl, rfl⟩⟩ | exact ⟨_, _, _, Or.inr (Or.inr (Or.inl ⟨by omega, by omega, zC, rfl, rfl⟩))⟩ | exact ⟨_, _, _, Or.inr (Or.inr (Or.inr (Or.inl ⟨by omega, by omega, zW, rfl⟩)))⟩ | exact ⟨_, _, _, Or.inr (Or.inr (Or.inr (Or.inr (Or.inl ⟨by omega, by omega, zJ, fun q => absurd q (by omega), rfl⟩))))⟩ | exact ⟨_, _, _, Or.inr (Or.inr (Or.inr (Or.inr (Or.inr (Or.inl ⟨by omega, by omega, zS, rfl, rfl⟩)))))⟩ | exact ⟨0, 0, 0, Or.inr (Or.inl ⟨by omega, by omega, by omega⟩)⟩ | exact ⟨0, 0, 0, Or.inr (Or.inr (Or.inr (Or.inr (Or.inr (Or.inr ⟨by omega, by omega, by omega, by omega, by omega, by omega⟩)))))⟩ | (exfalso; omega) | omega) Ln_h1286 Sp_h1286 Al_h1286t1290 Cu_h1286t1291)
            ·
              have gh1292 : my_fr [(4, 4), (4, 5), (4, 6), (4, 7), (4, 8), (4, 9), (5, 5), (5, 6), (5, 7), (5, 8), (5, 9), (32, -1), (33, -1), (34, -1), (35, -1), (36, -1), (37, -1), (38, -1), (39, -1)] h h1292 := my_fr.tr gh1275 (frh1292.mo rfl)
              have Ln_h1292 : Ln h1292 := Ln_ag (my_ag.fr frh1292 rfl) Ln_h1275
              have Sp_h1292 : Sp h1292 wv := Sp_ag (my_ag.fr frh1292 rfl) hwv Ln_h1275 Sp_h1275
              have Lo_h1292 : Lo h h1292 := Lo_ag (my_ag.fr frh1292 rfl) Ln_h1275 Lo_h1275
              show wp l rho (d + 7) 49 99 [(2, 82), (0, 1), (0, 1), (0, 0), (0, 1), (0, 1)] [] h1292 Q
              have tE1301 : cs h1275 = cs h := cs_eq (fun j => my_fr.at gh1275 is_92 rfl) (my_fr.at gh1275 is_82 rfl)
              rw [tE1301] at xp1294
              have ps1302 : h1275 82 7 = (sN (cs h) (h 82 7)) := xc1283
              rw [ps1302] at xp1294
              have ck1303 := Cu_s Cu_h1292t1296
              rw [show cs h1292 = cs h from cs_eq (fun j => my_fr.at gh1292 is_92 rfl) (my_fr.at gh1292 is_82 rfl)] at ck1303
              have q2 : h1275 82 2 = h 82 2 := my_fr.at frh1275 is_82 rfl
              have q11 : h1275 (h 82 2) 1 = h (h 82 2) 1 := my_fr.at frh1275 n_Ln.2.2.2.1 rfl
              have q13 : h1275 (h 82 2) 3 = h (h 82 2) 3 := my_fr.at frh1275 n_Ln.2.2.2.1 rfl
              have q14 : h1275 (h 82 2) 4 = h (h 82 2) 4 := my_fr.at frh1275 n_Ln.2.2.2.1 rfl
              have q19 : h1275 (h 82 2) 9 = h (h 82 2) 9 := my_fr.at frh1275 n_Ln.2.2.2.1 rfl
              have qc : h1275 2 = h 2 := funext (fun j => my_fr.at frh1275 is_2 rfl)
              have zF := xp1294
              simp only [q2, q11, q13, q14, q19, qc] at zF
              have st : h1292 82 2 = h 82 2 ∧ h1292 (h 82 2) 3 = h (h 82 2) 3 ∧ h1292 (h 82 2) 4 = h (h 82 2) 4 ∧ h1292 (h 82 2) 9 = h (h 82 2) 9 ∧ h1292 (h 82 2) 1 = h (h 82 2) 1 := ⟨(my_fr.at frh1292 is_82 rfl).trans q2, (my_fr.at frh1292 n_Ln.2.2.2.1 rfl).trans q13, (my_fr.at frh1292 n_Ln.2.2.2.1 rfl).trans q14, (my_fr.at frh1292 n_Ln.2.2.2.1 rfl).trans q19, (my_fr.at frh1292 n_Ln.2.2.2.1 rfl).trans q11⟩
              refine w_goto (t := 140) gz_49_99 rfl ?_
              have psR : h1292 82 7 = h1292 82 7 := (rfl : h1292 82 7 = h1292 82 7)
              have npsR : cs h1292 = cs h := cs_eq (fun j => my_fr.at gh1292 is_92 rfl) (my_fr.at gh1292 is_82 rfl)
              have c1304 := w1293
              exact w_vret gz_49_140 gm_49 (k1 h1292 (gh1292) (by omega) (by first | exact Lo_h1292 | exact ⟨st.1, st.2.1, st.2.2.2.2⟩ | exact Or.inl ⟨by omega, zF, st.2.2.1, st.2.2.2.1⟩ | exact Or.inr (Or.inr (Or.inl ⟨by omega, by omega, zC, st.2.2.1, st.2.2.2.1⟩)) | exact Or.inr (Or.inr (Or.inr (Or.inl ⟨by omega, by omega, zW, st.2.2.2.1⟩))) | exact Or.inr (Or.inr (Or.inr (Or.inr (Or.inl ⟨by omega, by omega, zJ, fun _ => st.2.2.1, st.2.2.2.1⟩)))) | exact Or.inr (Or.inr (Or.inr (Or.inr (Or.inr (Or.inl ⟨by omega, by omega, zS, st.2.2.1, st.2.2.2.1⟩))))) | exact ⟨_, _, _, Or.inl ⟨by omega, zF, rfl, rfl⟩⟩ | exact ⟨_, _, _, Or.inr (Or.inr (Or.inl ⟨by omega, by omega, zC, rfl, rfl⟩))⟩ | exact ⟨_, _, _, Or.inr (Or.inr (Or.inr (Or.inl ⟨by omega, by omega, zW, rfl⟩)))⟩ | exact ⟨_, _, _, Or.inr (Or.inr (Or.inr (Or.inr (Or.inl ⟨by omega, by omega, zJ, fun q => absurd q (by omega), rfl⟩))))⟩ | exact ⟨_, _, _, Or.inr (Or.inr (Or.inr (Or.inr (Or.inr (Or.inl ⟨by omega, by omega, zS, rfl, rfl⟩)))))⟩ | exact ⟨0, 0, 0, Or.inr (Or.inl ⟨by omega, by omega, by omega⟩)⟩ | exact ⟨0, 0, 0, Or.inr (Or.inr (Or.inr (Or.inr (Or.inr (Or.inr ⟨by omega, by omega, by omega, by omega, by omega, by omega⟩)))))⟩ | (exfalso; omega) | omega) (by first | exact Lo_h1292 | exact ⟨st.1, st.2.1, st.2.2.2.2⟩ | exact Or.inl ⟨by omega, zF, st.2.2.1, st.2.2.2.1⟩ | exact Or.inr (Or.inr (Or.inl ⟨by omega, by omega, zC, st.2.2.1, st.2.2.2.1⟩)) | exact Or.inr (Or.inr (Or.inr (Or.inl ⟨by omega, by omega, zW, st.2.2.2.1⟩))) | exact Or.inr (Or.inr (Or.inr (Or.inr (Or.inl ⟨by omega, by omega, zJ, fun _ => st.2.2.1, st.2.2.2.1⟩)))) | exact Or.inr (Or.inr (Or.inr (Or.inr (Or.inr (Or.inl ⟨by omega, by omega, zS, st.2.2.1, st.2.2.2.1⟩))))) | exact ⟨_, _, _, Or.inl ⟨by omega, zF, rfl, rfl⟩⟩ | exact ⟨_, _, _, Or.inr (Or.inr (Or.inl ⟨by omega, by omega, zC, rfl, rfl⟩))⟩ | exact ⟨_, _, _, Or.inr (Or.inr (Or.inr (Or.inl ⟨by omega, by omega, zW, rfl⟩)))⟩ | exact ⟨_, _, _, Or.inr (Or.inr (Or.inr (Or.inr (Or.inl ⟨by omega, by omega, zJ, fun q => absurd q (by omega), rfl⟩))))⟩ | exact ⟨_, _, _, Or.inr (Or.inr (Or.inr (Or.inr (Or.inr (Or.inl ⟨by omega, by omega, zS, rfl, rfl⟩)))))⟩ | exact ⟨0, 0, 0, Or.inr (Or.inl ⟨by omega, by omega, by omega⟩)⟩ | exact ⟨0, 0, 0, Or.inr (Or.inr (Or.inr (Or.inr (Or.inr (Or.inr ⟨by omega, by omega, by omega, by omega, by omega, by omega⟩)))))⟩ | (exfalso; omega) | omega) (by first | exact Lo_h1292 | exact ⟨st.1, st.2.1, st.2.2.2.2⟩ | exact Or.inl ⟨by omega, zF, st.2.2.1, st.2.2.2.1⟩ | exact Or.inr (Or.inr (Or.inl ⟨by omega, by omega, zC, st.2.2.1, st.2.2.2.1⟩)) | exact Or.inr (Or.inr (Or.inr (Or.inl ⟨by omega, by omega, zW, st.2.2.2.1⟩))) | exact Or.inr (Or.inr (Or.inr (Or.inr (Or.inl ⟨by omega, by omega, zJ, fun _ => st.2.2.1, st.2.2.2.1⟩)))) | exact Or.inr (Or.inr (Or.inr (Or.inr (Or.inr (Or.inl ⟨by omega, by omega, zS, st.2.2.1, st.2.2.2.1⟩))))) | exact ⟨_, _, _, Or.inl ⟨by omega, zF, rfl, rfl⟩⟩ | exact ⟨_, _, _, Or.inr (Or.inr (Or.inl ⟨by omega, by omega, zC, rfl, rfl⟩))⟩ | exact ⟨_, _, _, Or.inr (Or.inr (Or.inr (Or.inl ⟨by omega, by omega, zW, rfl⟩)))⟩ | exact ⟨_, _, _, Or.inr (Or.inr (Or.inr (Or.inr (Or.inl ⟨by omega, by omega, zJ, fun q => absurd q (by omega), rfl⟩))))⟩ | exact ⟨_, _, _, Or.inr (Or.inr (Or.inr (Or.inr (Or.inr (Or.inl ⟨by omega, by omega, zS, rfl, rfl⟩)))))⟩ | exact ⟨0, 0, 0, Or.inr (Or.inl ⟨by omega, by omega, by omega⟩)⟩ | exact ⟨0, 0, 0, Or.inr (Or.inr (Or.inr (Or.inr (Or.inr (Or.inr ⟨by omega, by omega, by omega, by omega, by omega, by omega⟩)))))⟩ | (exfalso; omega) | omega) Ln_h1292 Sp_h1292 Al_h1292t1295 Cu_h1292t1296)
      ·
        show wp l rho (d + 7) 49 20 [(2, 82), (0, 1), (0, 1), (9, 0), (9, 0), (9, 0)] [(0, 1)] h Q
        rw [show wc ((6 : Nat) : Int) = 8422 from by decide] at xp1161
        refine w_istore_n (ls' := [(2, 82), (0, 1), (0, 1), (0, 1), (9, 0), (9, 0)]) gz_49_20 gm_49 rfl rfl rfl ?_
        refine w_aload_n gz_49_21 rfl ?_
        refine w_ldcS gz_49_22 (by decide) ?_
        refine w_inv (k := 1) (as := [(3, ((7 : Nat) : Int))]) (r := []) (x := 82) (ls0 := [(2, 82), (3, ((7 : Nat) : Int)), (9, 0)]) gz_49_24 gm_41 rfl is_82 rd_5 rfl rfl rfl rfl rfl (c_Reader_isWord9_f0 (d := (d + 2)) (x1 := ((7 : Nat) : Int)) (by decide) (cf.trans (by omega)) n_Cu (fun w1305 xp1306 => ?_) (fun w1307 w1308 xp1309 => ?_))
        ·
          show wp l rho (d + 7) 49 27 [(2, 82), (0, 1), (0, 1), (0, 1), (9, 0), (9, 0)] [(0, 0)] h Q
          rw [show wc ((7 : Nat) : Int) = 527412 from by decide] at xp1306
          refine w_istore (ls' := [(2, 82), (0, 1), (0, 1), (0, 1), (0, 0), (9, 0)]) gz_49_27 gm_49 rfl rfl rfl ?_
          refine w_aload_n gz_49_29 rfl ?_
          refine w_ldcS gz_49_30 (by decide) ?_
          refine w_inv (k := 1) (as := [(3, ((8 : Nat) : Int))]) (r := []) (x := 82) (ls0 := [(2, 82), (3, ((8 : Nat) : Int)), (9, 0)]) gz_49_32 gm_41 rfl is_82 rd_5 rfl rfl rfl rfl rfl (c_Reader_isWord9_f0 (d := (d + 2)) (x1 := ((8 : Nat) : Int)) (by decide) (cf.trans (by omega)) n_Cu (fun w1310 xp1311 => ?_) (fun w1312 w1313 xp1314 => ?_))
          ·
            show wp l rho (d + 7) 49 35 [(2, 82), (0, 1), (0, 1), (0, 1), (0, 0), (9, 0)] [(0, 0)] h Q
            rw [show wc ((8 : Nat) : Int) = 26801 from by decide] at xp1311
            refine w_istore (ls' := [(2, 82), (0, 1), (0, 1), (0, 1), (0, 0), (0, 0)]) gz_49_35 gm_49 rfl rfl rfl ?_
            refine w_iload_n gz_49_37 rfl ?_
            refine w_ifne (t := 65) gz_49_38 rfl (fun u1315 => ?_) (fun u1315 => by exfalso; omega)
            refine w_iload_n gz_49_65 rfl ?_
            refine w_ifne (t := 87) gz_49_66 rfl (fun u1316 => ?_) (fun u1316 => by exfalso; omega)
            refine w_aload_n gz_49_87 rfl ?_
            refine w_inv (k := 2) (as := []) (r := []) (x := 82) (ls0 := [(2, 82), (9, 0), (9, 0)]) gz_49_88 gm_37 rfl is_82 rd_5 rfl rfl rfl rfl rfl (c_Reader_nextToken9_f0 (d := (d + 5))  (cf.trans (by omega)) n_Al (fun h1317 frh1317 w1318 w1319 w1320 xp1321 xp1322 Al_h1317t1323 Cu_h1317t1324 => ?_))
            have gh1317 : my_fr [(4, 4), (4, 5), (4, 6), (4, 7), (4, 8), (4, 9), (5, 5), (5, 6), (5, 7), (5, 8), (5, 9), (32, -1), (33, -1), (34, -1), (35, -1), (36, -1), (37, -1), (38, -1), (39, -1)] h h1317 := my_fr.tr my_fr.rf (frh1317.mo rfl)
            have Ln_h1317 : Ln h1317 := Ln_ag (my_ag.fr frh1317 rfl) n_Ln
            have Sp_h1317 : Sp h1317 wv := Sp_ag (my_ag.fr frh1317 rfl) hwv n_Ln n_Sp
            have Lo_h1317 : Lo h h1317 := Lo_ag (my_ag.fr frh1317 rfl) n_Ln (Lo_rf)
            show wp l rho (d + 7) 49 91 [(2, 82), (0, 1), (0, 1), (0, 1), (0, 0), (0, 0)] [] h1317 Q
            have xc1325 := xp1321 n_Cu
            have ck1326 := Cu_s Cu_h1317t1324
            rw [show cs h1317 = cs h from cs_eq (fun j => my_fr.at gh1317 is_92 rfl) (my_fr.at gh1317 is_82 rfl)] at ck1326
            rw [show h1317 82 7 = (sN (cs h) (h 82 7)) from xc1325] at ck1326
            refine w_iload_n gz_49_91 rfl ?_
            refine w_ifeq (t := 102) gz_49_92 rfl (fun u1327 => by exfalso; omega) (fun u1327 => ?_)
            refine w_aload_n gz_49_95 rfl ?_
            refine w_inv (k := 2) (as := []) (r := []) (x := 82) (ls0 := [(2, 82), (9, 0), (9, 0)]) gz_49_96 gm_50 rfl is_82 rd_5 rfl rfl rfl rfl rfl (c_Reader_readFill9_f0 (d := (d + 3))  (((my_fr.at frh1317 is_82 rfl).trans cf).trans (by omega)) Al_h1317t1323 Cu_h1317t1324 (fun h1328 frh1328 w1329 w1330 xp1331 Al_h1328t1332 Cu_h1328t1333 => ?_) (fun h1334 frh1334 w1335 xp1336 Al_h1334t1337 Cu_h1334t1338 => ?_))
            ·
              have gh1328 : my_fr [(4, 4), (4, 5), (4, 6), (4, 7), (4, 8), (4, 9), (5, 5), (5, 6), (5, 7), (5, 8), (5, 9), (32, -1), (33, -1), (34, -1), (35, -1), (36, -1), (37, -1), (38, -1), (39, -1)] h h1328 := my_fr.tr gh1317 (frh1328.mo rfl)
              have Ln_h1328 : Ln h1328 := Ln_ag (my_ag.fr frh1328 rfl) Ln_h1317
              have Sp_h1328 : Sp h1328 wv := Sp_ag (my_ag.fr frh1328 rfl) hwv Ln_h1317 Sp_h1317
              have Lo_h1328 : Lo h h1328 := Lo_ag (my_ag.fr frh1328 rfl) Ln_h1317 Lo_h1317
              show wp l rho (d + 7) 49 99 [(2, 82), (0, 1), (0, 1), (0, 1), (0, 0), (0, 0)] [] h1328 Q
              have tE1339 : cs h1317 = cs h := cs_eq (fun j => my_fr.at gh1317 is_92 rfl) (my_fr.at gh1317 is_82 rfl)
              rw [tE1339] at xp1331
              have ps1340 : h1317 82 7 = (sN (cs h) (h 82 7)) := xc1325
              rw [ps1340] at xp1331
              have ck1341 := Cu_s Cu_h1328t1333
              rw [show cs h1328 = cs h from cs_eq (fun j => my_fr.at gh1328 is_92 rfl) (my_fr.at gh1328 is_82 rfl)] at ck1341
              have q2 : h1317 82 2 = h 82 2 := my_fr.at frh1317 is_82 rfl
              have q11 : h1317 (h 82 2) 1 = h (h 82 2) 1 := my_fr.at frh1317 n_Ln.2.2.2.1 rfl
              have q13 : h1317 (h 82 2) 3 = h (h 82 2) 3 := my_fr.at frh1317 n_Ln.2.2.2.1 rfl
              have q14 : h1317 (h 82 2) 4 = h (h 82 2) 4 := my_fr.at frh1317 n_Ln.2.2.2.1 rfl
              have q19 : h1317 (h 82 2) 9 = h (h 82 2) 9 := my_fr.at frh1317 n_Ln.2.2.2.1 rfl
              have qc : h1317 2 = h 2 := funext (fun j => my_fr.at frh1317 is_2 rfl)
              have zF := xp1331
              simp only [q2, q11, q13, q14, q19, qc] at zF
              have st : h1328 82 2 = h 82 2 ∧ h1328 (h 82 2) 3 = h (h 82 2) 3 ∧ h1328 (h 82 2) 4 = h (h 82 2) 4 ∧ h1328 (h 82 2) 9 = h (h 82 2) 9 ∧ h1328 (h 82 2) 1 = h (h 82 2) 1 := ⟨(my_fr.at frh1328 is_82 rfl).trans q2, (my_fr.at frh1328 n_Ln.2.2.2.1 rfl).trans q13, (my_fr.at frh1328 n_Ln.2.2.2.1 rfl).trans q14, (my_fr.at frh1328 n_Ln.2.2.2.1 rfl).trans q19, (my_fr.at frh1328 n_Ln.2.2.2.1 rfl).trans q11⟩
              refine w_goto (t := 140) gz_49_99 rfl ?_
              have psR : h1328 82 7 = h1328 82 7 := (rfl : h1328 82 7 = h1328 82 7)
              have npsR : cs h1328 = cs h := cs_eq (fun j => my_fr.at gh1328 is_92 rfl) (my_fr.at gh1328 is_82 rfl)
              have c1342 := (rfl : h1328 82 9 = h1328 82 9)
              exact w_vret gz_49_140 gm_49 (k0 h1328 (gh1328) (by omega) (by omega) (by first | exact Lo_h1328 | exact ⟨st.1, st.2.1, st.2.2.2.2⟩ | exact Or.inl ⟨by omega, zF, st.2.2.1, st.2.2.2.1⟩ | exact Or.inr (Or.inr (Or.inl ⟨by omega, by omega, zC, st.2.2.1, st.2.2.2.1⟩)) | exact Or.inr (Or.inr (Or.inr (Or.inl ⟨by omega, by omega, zW, st.2.2.2.1⟩))) | exact Or.inr (Or.inr (Or.inr (Or.inr (Or.inl ⟨by omega, by omega, zJ, fun _ => st.2.2.1, st.2.2.2.1⟩)))) | exact Or.inr (Or.inr (Or.inr (Or.inr (Or.inr (Or.inl ⟨by omega, by omega, zS, st.2.2.1, st.2.2.2.1⟩))))) | exact ⟨_, _, _, Or.inl ⟨by omega, zF, rfl, rfl⟩⟩ | exact ⟨_, _, _, Or.inr (Or.inr (Or.inl ⟨by omega, by omega, zC, rfl, rfl⟩))⟩ | exact ⟨_, _, _, Or.inr (Or.inr (Or.inr (Or.inl ⟨by omega, by omega, zW, rfl⟩)))⟩ | exact ⟨_, _, _, Or.inr (Or.inr (Or.inr (Or.inr (Or.inl ⟨by omega, by omega, zJ, fun q => absurd q (by omega), rfl⟩))))⟩ | exact ⟨_, _, _, Or.inr (Or.inr (Or.inr (Or.inr (Or.inr (Or.inl ⟨by omega, by omega, zS, rfl, rfl⟩)))))⟩ | exact ⟨0, 0, 0, Or.inr (Or.inl ⟨by omega, by omega, by omega⟩)⟩ | exact ⟨0, 0, 0, Or.inr (Or.inr (Or.inr (Or.inr (Or.inr (Or.inr ⟨by omega, by omega, by omega, by omega, by omega, by omega⟩)))))⟩ | (exfalso; omega) | omega) (by first | exact Lo_h1328 | exact ⟨st.1, st.2.1, st.2.2.2.2⟩ | exact Or.inl ⟨by omega, zF, st.2.2.1, st.2.2.2.1⟩ | exact Or.inr (Or.inr (Or.inl ⟨by omega, by omega, zC, st.2.2.1, st.2.2.2.1⟩)) | exact Or.inr (Or.inr (Or.inr (Or.inl ⟨by omega, by omega, zW, st.2.2.2.1⟩))) | exact Or.inr (Or.inr (Or.inr (Or.inr (Or.inl ⟨by omega, by omega, zJ, fun _ => st.2.2.1, st.2.2.2.1⟩)))) | exact Or.inr (Or.inr (Or.inr (Or.inr (Or.inr (Or.inl ⟨by omega, by omega, zS, st.2.2.1, st.2.2.2.1⟩))))) | exact ⟨_, _, _, Or.inl ⟨by omega, zF, rfl, rfl⟩⟩ | exact ⟨_, _, _, Or.inr (Or.inr (Or.inl ⟨by omega, by omega, zC, rfl, rfl⟩))⟩ | exact ⟨_, _, _, Or.inr (Or.inr (Or.inr (Or.inl ⟨by omega, by omega, zW, rfl⟩)))⟩ | exact ⟨_, _, _, Or.inr (Or.inr (Or.inr (Or.inr (Or.inl ⟨by omega, by omega, zJ, fun q => absurd q (by omega), rfl⟩))))⟩ | exact ⟨_, _, _, Or.inr (Or.inr (Or.inr (Or.inr (Or.inr (Or.inl ⟨by omega, by omega, zS, rfl, rfl⟩)))))⟩ | exact ⟨0, 0, 0, Or.inr (Or.inl ⟨by omega, by omega, by omega⟩)⟩ | exact ⟨0, 0, 0, Or.inr (Or.inr (Or.inr (Or.inr (Or.inr (Or.inr ⟨by omega, by omega, by omega, by omega, by omega, by omega⟩)))))⟩ | (exfalso; omega) | omega) Ln_h1328 Sp_h1328 Al_h1328t1332 Cu_h1328t1333)
            ·
              have gh1334 : my_fr [(4, 4), (4, 5), (4, 6), (4, 7), (4, 8), (4, 9), (5, 5), (5, 6), (5, 7), (5, 8), (5, 9), (32, -1), (33, -1), (34, -1), (35, -1), (36, -1), (37, -1), (38, -1), (39, -1)] h h1334 := my_fr.tr gh1317 (frh1334.mo rfl)
              have Ln_h1334 : Ln h1334 := Ln_ag (my_ag.fr frh1334 rfl) Ln_h1317
              have Sp_h1334 : Sp h1334 wv := Sp_ag (my_ag.fr frh1334 rfl) hwv Ln_h1317 Sp_h1317
              have Lo_h1334 : Lo h h1334 := Lo_ag (my_ag.fr frh1334 rfl) Ln_h1317 Lo_h1317
              show wp l rho (d + 7) 49 99 [(2, 82), (0, 1), (0, 1), (0, 1), (0, 0), (0, 0)] [] h1334 Q
              have tE1343 : cs h1317 = cs h := cs_eq (fun j => my_fr.at gh1317 is_92 rfl) (my_fr.at gh1317 is_82 rfl)
              rw [tE1343] at xp1336
              have ps1344 : h1317 82 7 = (sN (cs h) (h 82 7)) := xc1325
              rw [ps1344] at xp1336
              have ck1345 := Cu_s Cu_h1334t1338
              rw [show cs h1334 = cs h from cs_eq (fun j => my_fr.at gh1334 is_92 rfl) (my_fr.at gh1334 is_82 rfl)] at ck1345
              have q2 : h1317 82 2 = h 82 2 := my_fr.at frh1317 is_82 rfl
              have q11 : h1317 (h 82 2) 1 = h (h 82 2) 1 := my_fr.at frh1317 n_Ln.2.2.2.1 rfl
              have q13 : h1317 (h 82 2) 3 = h (h 82 2) 3 := my_fr.at frh1317 n_Ln.2.2.2.1 rfl
              have q14 : h1317 (h 82 2) 4 = h (h 82 2) 4 := my_fr.at frh1317 n_Ln.2.2.2.1 rfl
              have q19 : h1317 (h 82 2) 9 = h (h 82 2) 9 := my_fr.at frh1317 n_Ln.2.2.2.1 rfl
              have qc : h1317 2 = h 2 := funext (fun j => my_fr.at frh1317 is_2 rfl)
              have zF := xp1336
              simp only [q2, q11, q13, q14, q19, qc] at zF
              have st : h1334 82 2 = h 82 2 ∧ h1334 (h 82 2) 3 = h (h 82 2) 3 ∧ h1334 (h 82 2) 4 = h (h 82 2) 4 ∧ h1334 (h 82 2) 9 = h (h 82 2) 9 ∧ h1334 (h 82 2) 1 = h (h 82 2) 1 := ⟨(my_fr.at frh1334 is_82 rfl).trans q2, (my_fr.at frh1334 n_Ln.2.2.2.1 rfl).trans q13, (my_fr.at frh1334 n_Ln.2.2.2.1 rfl).trans q14, (my_fr.at frh1334 n_Ln.2.2.2.1 rfl).trans q19, (my_fr.at frh1334 n_Ln.2.2.2.1 rfl).trans q11⟩
              refine w_goto (t := 140) gz_49_99 rfl ?_
              have psR : h1334 82 7 = h1334 82 7 := (rfl : h1334 82 7 = h1334 82 7)
              have npsR : cs h1334 = cs h := cs_eq (fun j => my_fr.at gh1334 is_92 rfl) (my_fr.at gh1334 is_82 rfl)
              have c1346 := w1335
              exact w_vret gz_49_140 gm_49 (k1 h1334 (gh1334) (by omega) (by first | exact Lo_h1334 | exact ⟨st.1, st.2.1, st.2.2.2.2⟩ | exact Or.inl ⟨by omega, zF, st.2.2.1, st.2.2.2.1⟩ | exact Or.inr (Or.inr (Or.inl ⟨by omega, by omega, zC, st.2.2.1, st.2.2.2.1⟩)) | exact Or.inr (Or.inr (Or.inr (Or.inl ⟨by omega, by omega, zW, st.2.2.2.1⟩))) | exact Or.inr (Or.inr (Or.inr (Or.inr (Or.inl ⟨by omega, by omega, zJ, fun _ => st.2.2.1, st.2.2.2.1⟩)))) | exact Or.inr (Or.inr (Or.inr (Or.inr (Or.inr (Or.inl ⟨by omega, by omega, zS, st.2.2.1, st.2.2.2.1⟩))))) | exact ⟨_, _, _, Or.inl ⟨by omega, zF, rfl, rfl⟩⟩ | exact ⟨_, _, _, Or.inr (Or.inr (Or.inl ⟨by omega, by omega, zC, rfl, rfl⟩))⟩ | exact ⟨_, _, _, Or.inr (Or.inr (Or.inr (Or.inl ⟨by omega, by omega, zW, rfl⟩)))⟩ | exact ⟨_, _, _, Or.inr (Or.inr (Or.inr (Or.inr (Or.inl ⟨by omega, by omega, zJ, fun q => absurd q (by omega), rfl⟩))))⟩ | exact ⟨_, _, _, Or.inr (Or.inr (Or.inr (Or.inr (Or.inr (Or.inl ⟨by omega, by omega, zS, rfl, rfl⟩)))))⟩ | exact ⟨0, 0, 0, Or.inr (Or.inl ⟨by omega, by omega, by omega⟩)⟩ | exact ⟨0, 0, 0, Or.inr (Or.inr (Or.inr (Or.inr (Or.inr (Or.inr ⟨by omega, by omega, by omega, by omega, by omega, by omega⟩)))))⟩ | (exfalso; omega) | omega) (by first | exact Lo_h1334 | exact ⟨st.1, st.2.1, st.2.2.2.2⟩ | exact Or.inl ⟨by omega, zF, st.2.2.1, st.2.2.2.1⟩ | exact Or.inr (Or.inr (Or.inl ⟨by omega, by omega, zC, st.2.2.1, st.2.2.2.1⟩)) | exact Or.inr (Or.inr (Or.inr (Or.inl ⟨by omega, by omega, zW, st.2.2.2.1⟩))) | exact Or.inr (Or.inr (Or.inr (Or.inr (Or.inl ⟨by omega, by omega, zJ, fun _ => st.2.2.1, st.2.2.2.1⟩)))) | exact Or.inr (Or.inr (Or.inr (Or.inr (Or.inr (Or.inl ⟨by omega, by omega, zS, st.2.2.1, st.2.2.2.1⟩))))) | exact ⟨_, _, _, Or.inl ⟨by omega, zF, rfl, rfl⟩⟩ | exact ⟨_, _, _, Or.inr (Or.inr (Or.inl ⟨by omega, by omega, zC, rfl, rfl⟩))⟩ | exact ⟨_, _, _, Or.inr (Or.inr (Or.inr (Or.inl ⟨by omega, by omega, zW, rfl⟩)))⟩ | exact ⟨_, _, _, Or.inr (Or.inr (Or.inr (Or.inr (Or.inl ⟨by omega, by omega, zJ, fun q => absurd q (by omega), rfl⟩))))⟩ | exact ⟨_, _, _, Or.inr (Or.inr (Or.inr (Or.inr (Or.inr (Or.inl ⟨by omega, by omega, zS, rfl, rfl⟩)))))⟩ | exact ⟨0, 0, 0, Or.inr (Or.inl ⟨by omega, by omega, by omega⟩)⟩ | exact ⟨0, 0, 0, Or.inr (Or.inr (Or.inr (Or.inr (Or.inr (Or.inr ⟨by omega, by omega, by omega, by omega, by omega, by omega⟩)))))⟩ | (exfalso; omega) | omega) (by first | exact Lo_h1334 | exact ⟨st.1, st.2.1, st.2.2.2.2⟩ | exact Or.inl ⟨by omega, zF, st.2.2.1, st.2.2.2.1⟩ | exact Or.inr (Or.inr (Or.inl ⟨by omega, by omega, zC, st.2.2.1, st.2.2.2.1⟩)) | exact Or.inr (Or.inr (Or.inr (Or.inl ⟨by omega, by omega, zW, st.2.2.2.1⟩))) | exact Or.inr (Or.inr (Or.inr (Or.inr (Or.inl ⟨by omega, by omega, zJ, fun _ => st.2.2.1, st.2.2.2.1⟩)))) | exact Or.inr (Or.inr (Or.inr (Or.inr (Or.inr (Or.inl ⟨by omega, by omega, zS, st.2.2.1, st.2.2.2.1⟩))))) | exact ⟨_, _, _, Or.inl ⟨by omega, zF, rfl, rfl⟩⟩ | exact ⟨_, _, _, Or.inr (Or.inr (Or.inl ⟨by omega, by omega, zC, rfl, rfl⟩))⟩ | exact ⟨_, _, _, Or.inr (Or.inr (Or.inr (Or.inl ⟨by omega, by omega, zW, rfl⟩)))⟩ | exact ⟨_, _, _, Or.inr (Or.inr (Or.inr (Or.inr (Or.inl ⟨by omega, by omega, zJ, fun q => absurd q (by omega), rfl⟩))))⟩ | exact ⟨_, _, _, Or.inr (Or.inr (Or.inr (Or.inr (Or.inr (Or.inl ⟨by omega, by omega, zS, rfl, rfl⟩)))))⟩ | exact ⟨0, 0, 0, Or.inr (Or.inl ⟨by omega, by omega, by omega⟩)⟩ | exact ⟨0, 0, 0, Or.inr (Or.inr (Or.inr (Or.inr (Or.inr (Or.inr ⟨by omega, by omega, by omega, by omega, by omega, by omega⟩)))))⟩ | (exfalso; omega) | omega) Ln_h1334 Sp_h1334 Al_h1334t1337 Cu_h1334t1338)
          ·
            show wp l rho (d + 7) 49 35 [(2, 82), (0, 1), (0, 1), (0, 1), (0, 0), (9, 0)] [(0, 1)] h Q
            rw [show wc ((8 : Nat) : Int) = 26801 from by decide] at xp1314
            refine w_istore (ls' := [(2, 82), (0, 1), (0, 1), (0, 1), (0, 0), (0, 1)]) gz_49_35 gm_49 rfl rfl rfl ?_
            refine w_iload_n gz_49_37 rfl ?_
            refine w_ifne (t := 65) gz_49_38 rfl (fun u1347 => ?_) (fun u1347 => by exfalso; omega)
            refine w_iload_n gz_49_65 rfl ?_
            refine w_ifne (t := 87) gz_49_66 rfl (fun u1348 => ?_) (fun u1348 => by exfalso; omega)
            refine w_aload_n gz_49_87 rfl ?_
            refine w_inv (k := 2) (as := []) (r := []) (x := 82) (ls0 := [(2, 82), (9, 0), (9, 0)]) gz_49_88 gm_37 rfl is_82 rd_5 rfl rfl rfl rfl rfl (c_Reader_nextToken9_f0 (d := (d + 5))  (cf.trans (by omega)) n_Al (fun h1349 frh1349 w1350 w1351 w1352 xp1353 xp1354 Al_h1349t1355 Cu_h1349t1356 => ?_))
            have gh1349 : my_fr [(4, 4), (4, 5), (4, 6), (4, 7), (4, 8), (4, 9), (5, 5), (5, 6), (5, 7), (5, 8), (5, 9), (32, -1), (33, -1), (34, -1), (35, -1), (36, -1), (37, -1), (38, -1), (39, -1)] h h1349 := my_fr.tr my_fr.rf (frh1349.mo rfl)
            have Ln_h1349 : Ln h1349 := Ln_ag (my_ag.fr frh1349 rfl) n_Ln
            have Sp_h1349 : Sp h1349 wv := Sp_ag (my_ag.fr frh1349 rfl) hwv n_Ln n_Sp
            have Lo_h1349 : Lo h h1349 := Lo_ag (my_ag.fr frh1349 rfl) n_Ln (Lo_rf)
            show wp l rho (d + 7) 49 91 [(2, 82), (0, 1), (0, 1), (0, 1), (0, 0), (0, 1)] [] h1349 Q
            have xc1357 := xp1353 n_Cu
            have ck1358 := Cu_s Cu_h1349t1356
            rw [show cs h1349 = cs h from cs_eq (fun j => my_fr.at gh1349 is_92 rfl) (my_fr.at gh1349 is_82 rfl)] at ck1358
            rw [show h1349 82 7 = (sN (cs h) (h 82 7)) from xc1357] at ck1358
            refine w_iload_n gz_49_91 rfl ?_
            refine w_ifeq (t := 102) gz_49_92 rfl (fun u1359 => by exfalso; omega) (fun u1359 => ?_)
            refine w_aload_n gz_49_95 rfl ?_
            refine w_inv (k := 2) (as := []) (r := []) (x := 82) (ls0 := [(2, 82), (9, 0), (9, 0)]) gz_49_96 gm_50 rfl is_82 rd_5 rfl rfl rfl rfl rfl (c_Reader_readFill9_f0 (d := (d + 3))  (((my_fr.at frh1349 is_82 rfl).trans cf).trans (by omega)) Al_h1349t1355 Cu_h1349t1356 (fun h1360 frh1360 w1361 w1362 xp1363 Al_h1360t1364 Cu_h1360t1365 => ?_) (fun h1366 frh1366 w1367 xp1368 Al_h1366t1369 Cu_h1366t1370 => ?_))
            ·
              have gh1360 : my_fr [(4, 4), (4, 5), (4, 6), (4, 7), (4, 8), (4, 9), (5, 5), (5, 6), (5, 7), (5, 8), (5, 9), (32, -1), (33, -1), (34, -1), (35, -1), (36, -1), (37, -1), (38, -1), (39, -1)] h h1360 := my_fr.tr gh1349 (frh1360.mo rfl)
              have Ln_h1360 : Ln h1360 := Ln_ag (my_ag.fr frh1360 rfl) Ln_h1349
              have Sp_h1360 : Sp h1360 wv := Sp_ag (my_ag.fr frh1360 rfl) hwv Ln_h1349 Sp_h1349
              have Lo_h1360 : Lo h h1360 := Lo_ag (my_ag.fr frh1360 rfl) Ln_h1349 Lo_h1349
              show wp l rho (d + 7) 49 99 [(2, 82), (0, 1), (0, 1), (0, 1), (0, 0), (0, 1)] [] h1360 Q
              have tE1371 : cs h1349 = cs h := cs_eq (fun j => my_fr.at gh1349 is_92 rfl) (my_fr.at gh1349 is_82 rfl)
              rw [tE1371] at xp1363
              have ps1372 : h1349 82 7 = (sN (cs h) (h 82 7)) := xc1357
              rw [ps1372] at xp1363
              have ck1373 := Cu_s Cu_h1360t1365
              rw [show cs h1360 = cs h from cs_eq (fun j => my_fr.at gh1360 is_92 rfl) (my_fr.at gh1360 is_82 rfl)] at ck1373
              have q2 : h1349 82 2 = h 82 2 := my_fr.at frh1349 is_82 rfl
              have q11 : h1349 (h 82 2) 1 = h (h 82 2) 1 := my_fr.at frh1349 n_Ln.2.2.2.1 rfl
              have q13 : h1349 (h 82 2) 3 = h (h 82 2) 3 := my_fr.at frh1349 n_Ln.2.2.2.1 rfl
              have q14 : h1349 (h 82 2) 4 = h (h 82 2) 4 := my_fr.at frh1349 n_Ln.2.2.2.1 rfl
              have q19 : h1349 (h 82 2) 9 = h (h 82 2) 9 := my_fr.at frh1349 n_Ln.2.2.2.1 rfl
              have qc : h1349 2 = h 2 := funext (fun j => my_fr.at frh1349 is_2 rfl)
              have zF := xp1363
              simp only [q2, q11, q13, q14, q19, qc] at zF
              have st : h1360 82 2 = h 82 2 ∧ h1360 (h 82 2) 3 = h (h 82 2) 3 ∧ h1360 (h 82 2) 4 = h (h 82 2) 4 ∧ h1360 (h 82 2) 9 = h (h 82 2) 9 ∧ h1360 (h 82 2) 1 = h (h 82 2) 1 := ⟨(my_fr.at frh1360 is_82 rfl).trans q2, (my_fr.at frh1360 n_Ln.2.2.2.1 rfl).trans q13, (my_fr.at frh1360 n_Ln.2.2.2.1 rfl).trans q14, (my_fr.at frh1360 n_Ln.2.2.2.1 rfl).trans q19, (my_fr.at frh1360 n_Ln.2.2.2.1 rfl).trans q11⟩
              refine w_goto (t := 140) gz_49_99 rfl ?_
              have psR : h1360 82 7 = h1360 82 7 := (rfl : h1360 82 7 = h1360 82 7)
              have npsR : cs h1360 = cs h := cs_eq (fun j => my_fr.at gh1360 is_92 rfl) (my_fr.at gh1360 is_82 rfl)
              have c1374 := (rfl : h1360 82 9 = h1360 82 9)
              exact w_vret gz_49_140 gm_49 (k0 h1360 (gh1360) (by omega) (by omega) (by first | exact Lo_h1360 | exact ⟨st.1, st.2.1, st.2.2.2.2⟩ | exact Or.inl ⟨by omega, zF, st.2.2.1, st.2.2.2.1⟩ | exact Or.inr (Or.inr (Or.inl ⟨by omega, by omega, zC, st.2.2.1, st.2.2.2.1⟩)) | exact Or.inr (Or.inr (Or.inr (Or.inl ⟨by omega, by omega, zW, st.2.2.2.1⟩))) | exact Or.inr (Or.inr (Or.inr (Or.inr (Or.inl ⟨by omega, by omega, zJ, fun _ => st.2.2.1, st.2.2.2.1⟩)))) | exact Or.inr (Or.inr (Or.inr (Or.inr (Or.inr (Or.inl ⟨by omega, by omega, zS, st.2.2.1, st.2.2.2.1⟩))))) | exact ⟨_, _, _, Or.inl ⟨by omega, zF, rfl, rfl⟩⟩ | exact ⟨_, _, _, Or.inr (Or.inr (Or.inl ⟨by omega, by omega, zC, rfl, rfl⟩))⟩ | exact ⟨_, _, _, Or.inr (Or.inr (Or.inr (Or.inl ⟨by omega, by omega, zW, rfl⟩)))⟩ | exact ⟨_, _, _, Or.inr (Or.inr (Or.inr (Or.inr (Or.inl ⟨by omega, by omega, zJ, fun q => absurd q (by omega), rfl⟩))))⟩ | exact ⟨_, _, _, Or.inr (Or.inr (Or.inr (Or.inr (Or.inr (Or.inl ⟨by omega, by omega, zS, rfl, rfl⟩)))))⟩ | exact ⟨0, 0, 0, Or.inr (Or.inl ⟨by omega, by omega, by omega⟩)⟩ | exact ⟨0, 0, 0, Or.inr (Or.inr (Or.inr (Or.inr (Or.inr (Or.inr ⟨by omega, by omega, by omega, by omega, by omega, by omega⟩)))))⟩ | (exfalso; omega) | omega) (by first | exact Lo_h1360 | exact ⟨st.1, st.2.1, st.2.2.2.2⟩ | exact Or.inl ⟨by omega, zF, st.2.2.1, st.2.2.2.1⟩ | exact Or.inr (Or.inr (Or.inl ⟨by omega, by omega, zC, st.2.2.1, st.2.2.2.1⟩)) | exact Or.inr (Or.inr (Or.inr (Or.inl ⟨by omega, by omega, zW, st.2.2.2.1⟩))) | exact Or.inr (Or.inr (Or.inr (Or.inr (Or.inl ⟨by omega, by omega, zJ, fun _ => st.2.2.1, st.2.2.2.1⟩)))) | exact Or.inr (Or.inr (Or.inr (Or.inr (Or.inr (Or.inl ⟨by omega, by omega, zS, st.2.2.1, st.2.2.2.1⟩))))) | exact ⟨_, _, _, Or.inl ⟨by omega, zF, rfl, rfl⟩⟩ | exact ⟨_, _, _, Or.inr (Or.inr (Or.inl ⟨by omega, by omega, zC, rfl, rfl⟩))⟩ | exact ⟨_, _, _, Or.inr (Or.inr (Or.inr (Or.inl ⟨by omega, by omega, zW, rfl⟩)))⟩ | exact ⟨_, _, _, Or.inr (Or.inr (Or.inr (Or.inr (Or.inl ⟨by omega, by omega, zJ, fun q => absurd q (by omega), rfl⟩))))⟩ | exact ⟨_, _, _, Or.inr (Or.inr (Or.inr (Or.inr (Or.inr (Or.inl ⟨by omega, by omega, zS, rfl, rfl⟩)))))⟩ | exact ⟨0, 0, 0, Or.inr (Or.inl ⟨by omega, by omega, by omega⟩)⟩ | exact ⟨0, 0, 0, Or.inr (Or.inr (Or.inr (Or.inr (Or.inr (Or.inr ⟨by omega, by omega, by omega, by omega, by omega, by omega⟩)))))⟩ | (exfalso; omega) | omega) Ln_h1360 Sp_h1360 Al_h1360t1364 Cu_h1360t1365)
            ·
              have gh1366 : my_fr [(4, 4), (4, 5), (4, 6), (4, 7), (4, 8), (4, 9), (5, 5), (5, 6), (5, 7), (5, 8), (5, 9), (32, -1), (33, -1), (34, -1), (35, -1), (36, -1), (37, -1), (38, -1), (39, -1)] h h1366 := my_fr.tr gh1349 (frh1366.mo rfl)
              have Ln_h1366 : Ln h1366 := Ln_ag (my_ag.fr frh1366 rfl) Ln_h1349
              have Sp_h1366 : Sp h1366 wv := Sp_ag (my_ag.fr frh1366 rfl) hwv Ln_h1349 Sp_h1349
              have Lo_h1366 : Lo h h1366 := Lo_ag (my_ag.fr frh1366 rfl) Ln_h1349 Lo_h1349
              show wp l rho (d + 7) 49 99 [(2, 82), (0, 1), (0, 1), (0, 1), (0, 0), (0, 1)] [] h1366 Q
              have tE1375 : cs h1349 = cs h := cs_eq (fun j => my_fr.at gh1349 is_92 rfl) (my_fr.at gh1349 is_82 rfl)
              rw [tE1375] at xp1368
              have ps1376 : h1349 82 7 = (sN (cs h) (h 82 7)) := xc1357
              rw [ps1376] at xp1368
              have ck1377 := Cu_s Cu_h1366t1370
              rw [show cs h1366 = cs h from cs_eq (fun j => my_fr.at gh1366 is_92 rfl) (my_fr.at gh1366 is_82 rfl)] at ck1377
              have q2 : h1349 82 2 = h 82 2 := my_fr.at frh1349 is_82 rfl
              have q11 : h1349 (h 82 2) 1 = h (h 82 2) 1 := my_fr.at frh1349 n_Ln.2.2.2.1 rfl
              have q13 : h1349 (h 82 2) 3 = h (h 82 2) 3 := my_fr.at frh1349 n_Ln.2.2.2.1 rfl
              have q14 : h1349 (h 82 2) 4 = h (h 82 2) 4 := my_fr.at frh1349 n_Ln.2.2.2.1 rfl
              have q19 : h1349 (h 82 2) 9 = h (h 82 2) 9 := my_fr.at frh1349 n_Ln.2.2.2.1 rfl
              have qc : h1349 2 = h 2 := funext (fun j => my_fr.at frh1349 is_2 rfl)
              have zF := xp1368
              simp only [q2, q11, q13, q14, q19, qc] at zF
              have st : h1366 82 2 = h 82 2 ∧ h1366 (h 82 2) 3 = h (h 82 2) 3 ∧ h1366 (h 82 2) 4 = h (h 82 2) 4 ∧ h1366 (h 82 2) 9 = h (h 82 2) 9 ∧ h1366 (h 82 2) 1 = h (h 82 2) 1 := ⟨(my_fr.at frh1366 is_82 rfl).trans q2, (my_fr.at frh1366 n_Ln.2.2.2.1 rfl).trans q13, (my_fr.at frh1366 n_Ln.2.2.2.1 rfl).trans q14, (my_fr.at frh1366 n_Ln.2.2.2.1 rfl).trans q19, (my_fr.at frh1366 n_Ln.2.2.2.1 rfl).trans q11⟩
              refine w_goto (t := 140) gz_49_99 rfl ?_
              have psR : h1366 82 7 = h1366 82 7 := (rfl : h1366 82 7 = h1366 82 7)
              have npsR : cs h1366 = cs h := cs_eq (fun j => my_fr.at gh1366 is_92 rfl) (my_fr.at gh1366 is_82 rfl)
              have c1378 := w1367
              exact w_vret gz_49_140 gm_49 (k1 h1366 (gh1366) (by omega) (by first | exact Lo_h1366 | exact ⟨st.1, st.2.1, st.2.2.2.2⟩ | exact Or.inl ⟨by omega, zF, st.2.2.1, st.2.2.2.1⟩ | exact Or.inr (Or.inr (Or.inl ⟨by omega, by omega, zC, st.2.2.1, st.2.2.2.1⟩)) | exact Or.inr (Or.inr (Or.inr (Or.inl ⟨by omega, by omega, zW, st.2.2.2.1⟩))) | exact Or.inr (Or.inr (Or.inr (Or.inr (Or.inl ⟨by omega, by omega, zJ, fun _ => st.2.2.1, st.2.2.2.1⟩)))) | exact Or.inr (Or.inr (Or.inr (Or.inr (Or.inr (Or.inl ⟨by omega, by omega, zS, st.2.2.1, st.2.2.2.1⟩))))) | exact ⟨_, _, _, Or.inl ⟨by omega, zF, rfl, rfl⟩⟩ | exact ⟨_, _, _, Or.inr (Or.inr (Or.inl ⟨by omega, by omega, zC, rfl, rfl⟩))⟩ | exact ⟨_, _, _, Or.inr (Or.inr (Or.inr (Or.inl ⟨by omega, by omega, zW, rfl⟩)))⟩ | exact ⟨_, _, _, Or.inr (Or.inr (Or.inr (Or.inr (Or.inl ⟨by omega, by omega, zJ, fun q => absurd q (by omega), rfl⟩))))⟩ | exact ⟨_, _, _, Or.inr (Or.inr (Or.inr (Or.inr (Or.inr (Or.inl ⟨by omega, by omega, zS, rfl, rfl⟩)))))⟩ | exact ⟨0, 0, 0, Or.inr (Or.inl ⟨by omega, by omega, by omega⟩)⟩ | exact ⟨0, 0, 0, Or.inr (Or.inr (Or.inr (Or.inr (Or.inr (Or.inr ⟨by omega, by omega, by omega, by omega, by omega, by omega⟩)))))⟩ | (exfalso; omega) | omega) (by first | exact Lo_h1366 | exact ⟨st.1, st.2.1, st.2.2.2.2⟩ | exact Or.inl ⟨by omega, zF, st.2.2.1, st.2.2.2.1⟩ | exact Or.inr (Or.inr (Or.inl ⟨by omega, by omega, zC, st.2.2.1, st.2.2.2.1⟩)) | exact Or.inr (Or.inr (Or.inr (Or.inl ⟨by omega, by omega, zW, st.2.2.2.1⟩))) | exact Or.inr (Or.inr (Or.inr (Or.inr (Or.inl ⟨by omega, by omega, zJ, fun _ => st.2.2.1, st.2.2.2.1⟩)))) | exact Or.inr (Or.inr (Or.inr (Or.inr (Or.inr (Or.inl ⟨by omega, by omega, zS, st.2.2.1, st.2.2.2.1⟩))))) | exact ⟨_, _, _, Or.inl ⟨by omega, zF, rfl, rfl⟩⟩ | exact ⟨_, _, _, Or.inr (Or.inr (Or.inl ⟨by omega, by omega, zC, rfl, rfl⟩))⟩ | exact ⟨_, _, _, Or.inr (Or.inr (Or.inr (Or.inl ⟨by omega, by omega, zW, rfl⟩)))⟩ | exact ⟨_, _, _, Or.inr (Or.inr (Or.inr (Or.inr (Or.inl ⟨by omega, by omega, zJ, fun q => absurd q (by omega), rfl⟩))))⟩ | exact ⟨_, _, _, Or.inr (Or.inr (Or.inr (Or.inr (Or.inr (Or.inl ⟨by omega, by omega, zS, rfl, rfl⟩)))))⟩ | exact ⟨0, 0, 0, Or.inr (Or.inl ⟨by omega, by omega, by omega⟩)⟩ | exact ⟨0, 0, 0, Or.inr (Or.inr (Or.inr (Or.inr (Or.inr (Or.inr ⟨by omega, by omega, by omega, by omega, by omega, by omega⟩)))))⟩ | (exfalso; omega) | omega) (by first | exact Lo_h1366 | exact ⟨st.1, st.2.1, st.2.2.2.2⟩ | exact Or.inl ⟨by omega, zF, st.2.2.1, st.2.2.2.1⟩ | exact Or.inr (Or.inr (Or.inl ⟨by omega, by omega, zC, st.2.2.1, st.2.2.2.1⟩)) | exact Or.inr (Or.inr (Or.inr (Or.inl ⟨by omega, by omega, zW, st.2.2.2.1⟩))) | exact Or.inr (Or.inr (Or.inr (Or.inr (Or.inl ⟨by omega, by omega, zJ, fun _ => st.2.2.1, st.2.2.2.1⟩)))) | exact Or.inr (Or.inr (Or.inr (Or.inr (Or.inr (Or.inl ⟨by omega, by omega, zS, st.2.2.1, st.2.2.2.1⟩))))) | exact ⟨_, _, _, Or.inl ⟨by omega, zF, rfl, rfl⟩⟩ | exact ⟨_, _, _, Or.inr (Or.inr (Or.inl ⟨by omega, by omega, zC, rfl, rfl⟩))⟩ | exact ⟨_, _, _, Or.inr (Or.inr (Or.inr (Or.inl ⟨by omega, by omega, zW, rfl⟩)))⟩ | exact ⟨_, _, _, Or.inr (Or.inr (Or.inr (Or.inr (Or.inl ⟨by omega, by omega, zJ, fun q => absurd q (by omega), rfl⟩))))⟩ | exact ⟨_, _, _, Or.inr (Or.inr (Or.inr (Or.inr (Or.inr (Or.inl ⟨by omega, by omega, zS, rfl, rfl⟩)))))⟩ | exact ⟨0, 0, 0, Or.inr (Or.inl ⟨by omega, by omega, by omega⟩)⟩ | exact ⟨0, 0, 0, Or.inr (Or.inr (Or.inr (Or.inr (Or.inr (Or.inr ⟨by omega, by omega, by omega, by omega, by omega, by omega⟩)))))⟩ | (exfalso; omega) | omega) Ln_h1366 Sp_h1366 Al_h1366t1369 Cu_h1366t1370)
        ·
          show wp l rho (d + 7) 49 27 [(2, 82), (0, 1), (0, 1), (0, 1), (9, 0), (9, 0)] [(0, 1)] h Q
          rw [show wc ((7 : Nat) : Int) = 527412 from by decide] at xp1309
          refine w_istore (ls' := [(2, 82), (0, 1), (0, 1), (0, 1), (0, 1), (9, 0)]) gz_49_27 gm_49 rfl rfl rfl ?_
          refine w_aload_n gz_49_29 rfl ?_
          refine w_ldcS gz_49_30 (by decide) ?_
          refine w_inv (k := 1) (as := [(3, ((8 : Nat) : Int))]) (r := []) (x := 82) (ls0 := [(2, 82), (3, ((8 : Nat) : Int)), (9, 0)]) gz_49_32 gm_41 rfl is_82 rd_5 rfl rfl rfl rfl rfl (c_Reader_isWord9_f0 (d := (d + 2)) (x1 := ((8 : Nat) : Int)) (by decide) (cf.trans (by omega)) n_Cu (fun w1379 xp1380 => ?_) (fun w1381 w1382 xp1383 => ?_))
          ·
            show wp l rho (d + 7) 49 35 [(2, 82), (0, 1), (0, 1), (0, 1), (0, 1), (9, 0)] [(0, 0)] h Q
            rw [show wc ((8 : Nat) : Int) = 26801 from by decide] at xp1380
            refine w_istore (ls' := [(2, 82), (0, 1), (0, 1), (0, 1), (0, 1), (0, 0)]) gz_49_35 gm_49 rfl rfl rfl ?_
            refine w_iload_n gz_49_37 rfl ?_
            refine w_ifne (t := 65) gz_49_38 rfl (fun u1384 => ?_) (fun u1384 => by exfalso; omega)
            refine w_iload_n gz_49_65 rfl ?_
            refine w_ifne (t := 87) gz_49_66 rfl (fun u1385 => ?_) (fun u1385 => by exfalso; omega)
            refine w_aload_n gz_49_87 rfl ?_
            refine w_inv (k := 2) (as := []) (r := []) (x := 82) (ls0 := [(2, 82), (9, 0), (9, 0)]) gz_49_88 gm_37 rfl is_82 rd_5 rfl rfl rfl rfl rfl (c_Reader_nextToken9_f0 (d := (d + 5))  (cf.trans (by omega)) n_Al (fun h1386 frh1386 w1387 w1388 w1389 xp1390 xp1391 Al_h1386t1392 Cu_h1386t1393 => ?_))
            have gh1386 : my_fr [(4, 4), (4, 5), (4, 6), (4, 7), (4, 8), (4, 9), (5, 5), (5, 6), (5, 7), (5, 8), (5, 9), (32, -1), (33, -1), (34, -1), (35, -1), (36, -1), (37, -1), (38, -1), (39, -1)] h h1386 := my_fr.tr my_fr.rf (frh1386.mo rfl)
            have Ln_h1386 : Ln h1386 := Ln_ag (my_ag.fr frh1386 rfl) n_Ln
            have Sp_h1386 : Sp h1386 wv := Sp_ag (my_ag.fr frh1386 rfl) hwv n_Ln n_Sp
            have Lo_h1386 : Lo h h1386 := Lo_ag (my_ag.fr frh1386 rfl) n_Ln (Lo_rf)
            show wp l rho (d + 7) 49 91 [(2, 82), (0, 1), (0, 1), (0, 1), (0, 1), (0, 0)] [] h1386 Q
            have xc1394 := xp1390 n_Cu
            have ck1395 := Cu_s Cu_h1386t1393
            rw [show cs h1386 = cs h from cs_eq (fun j => my_fr.at gh1386 is_92 rfl) (my_fr.at gh1386 is_82 rfl)] at ck1395
            rw [show h1386 82 7 = (sN (cs h) (h 82 7)) from xc1394] at ck1395
            refine w_iload_n gz_49_91 rfl ?_
            refine w_ifeq (t := 102) gz_49_92 rfl (fun u1396 => by exfalso; omega) (fun u1396 => ?_)
            refine w_aload_n gz_49_95 rfl ?_
            refine w_inv (k := 2) (as := []) (r := []) (x := 82) (ls0 := [(2, 82), (9, 0), (9, 0)]) gz_49_96 gm_50 rfl is_82 rd_5 rfl rfl rfl rfl rfl (c_Reader_readFill9_f0 (d := (d + 3))  (((my_fr.at frh1386 is_82 rfl).trans cf).trans (by omega)) Al_h1386t1392 Cu_h1386t1393 (fun h1397 frh1397 w1398 w1399 xp1400 Al_h1397t1401 Cu_h1397t1402 => ?_) (fun h1403 frh1403 w1404 xp1405 Al_h1403t1406 Cu_h1403t1407 => ?_))
            ·
              have gh1397 : my_fr [(4, 4), (4, 5), (4, 6), (4, 7), (4, 8), (4, 9), (5, 5), (5, 6), (5, 7), (5, 8), (5, 9), (32, -1), (33, -1), (34, -1), (35, -1), (36, -1), (37, -1), (38, -1), (39, -1)] h h1397 := my_fr.tr gh1386 (frh1397.mo rfl)
              have Ln_h1397 : Ln h1397 := Ln_ag (my_ag.fr frh1397 rfl) Ln_h1386
              have Sp_h1397 : Sp h1397 wv := Sp_ag (my_ag.fr frh1397 rfl) hwv Ln_h1386 Sp_h1386
              have Lo_h1397 : Lo h h1397 := Lo_ag (my_ag.fr frh1397 rfl) Ln_h1386 Lo_h1386
              show wp l rho (d + 7) 49 99 [(2, 82), (0, 1), (0, 1), (0, 1), (0, 1), (0, 0)] [] h1397 Q
              have tE1408 : cs h1386 = cs h := cs_eq (fun j => my_fr.at gh1386 is_92 rfl) (my_fr.at gh1386 is_82 rfl)
              rw [tE1408] at xp1400
              have ps1409 : h1386 82 7 = (sN (cs h) (h 82 7)) := xc1394
              rw [ps1409] at xp1400
              have ck1410 := Cu_s Cu_h1397t1402
              rw [show cs h1397 = cs h from cs_eq (fun j => my_fr.at gh1397 is_92 rfl) (my_fr.at gh1397 is_82 rfl)] at ck1410
              have q2 : h1386 82 2 = h 82 2 := my_fr.at frh1386 is_82 rfl
              have q11 : h1386 (h 82 2) 1 = h (h 82 2) 1 := my_fr.at frh1386 n_Ln.2.2.2.1 rfl
              have q13 : h1386 (h 82 2) 3 = h (h 82 2) 3 := my_fr.at frh1386 n_Ln.2.2.2.1 rfl
              have q14 : h1386 (h 82 2) 4 = h (h 82 2) 4 := my_fr.at frh1386 n_Ln.2.2.2.1 rfl
              have q19 : h1386 (h 82 2) 9 = h (h 82 2) 9 := my_fr.at frh1386 n_Ln.2.2.2.1 rfl
              have qc : h1386 2 = h 2 := funext (fun j => my_fr.at frh1386 is_2 rfl)
              have zF := xp1400
              simp only [q2, q11, q13, q14, q19, qc] at zF
              have st : h1397 82 2 = h 82 2 ∧ h1397 (h 82 2) 3 = h (h 82 2) 3 ∧ h1397 (h 82 2) 4 = h (h 82 2) 4 ∧ h1397 (h 82 2) 9 = h (h 82 2) 9 ∧ h1397 (h 82 2) 1 = h (h 82 2) 1 := ⟨(my_fr.at frh1397 is_82 rfl).trans q2, (my_fr.at frh1397 n_Ln.2.2.2.1 rfl).trans q13, (my_fr.at frh1397 n_Ln.2.2.2.1 rfl).trans q14, (my_fr.at frh1397 n_Ln.2.2.2.1 rfl).trans q19, (my_fr.at frh1397 n_Ln.2.2.2.1 rfl).trans q11⟩
              refine w_goto (t := 140) gz_49_99 rfl ?_
              have psR : h1397 82 7 = h1397 82 7 := (rfl : h1397 82 7 = h1397 82 7)
              have npsR : cs h1397 = cs h := cs_eq (fun j => my_fr.at gh1397 is_92 rfl) (my_fr.at gh1397 is_82 rfl)
              have c1411 := (rfl : h1397 82 9 = h1397 82 9)
              exact w_vret gz_49_140 gm_49 (k0 h1397 (gh1397) (by omega) (by omega) (by first | exact Lo_h1397 | exact ⟨st.1, st.2.1, st.2.2.2.2⟩ | exact Or.inl ⟨by omega, zF, st.2.2.1, st.2.2.2.1⟩ | exact Or.inr (Or.inr (Or.inl ⟨by omega, by omega, zC, st.2.2.1, st.2.2.2.1⟩)) | exact Or.inr (Or.inr (Or.inr (Or.inl ⟨by omega, by omega, zW, st.2.2.2.1⟩))) | exact Or.inr (Or.inr (Or.inr (Or.inr (Or.inl ⟨by omega, by omega, zJ, fun _ => st.2.2.1, st.2.2.2.1⟩)))) | exact Or.inr (Or.inr (Or.inr (Or.inr (Or.inr (Or.inl ⟨by omega, by omega, zS, st.2.2.1, st.2.2.2.1⟩))))) | exact ⟨_, _, _, Or.inl ⟨by omega, zF, rfl, rfl⟩⟩ | exact ⟨_, _, _, Or.inr (Or.inr (Or.inl ⟨by omega, by omega, zC, rfl, rfl⟩))⟩ | exact ⟨_, _, _, Or.inr (Or.inr (Or.inr (Or.inl ⟨by omega, by omega, zW, rfl⟩)))⟩ | exact ⟨_, _, _, Or.inr (Or.inr (Or.inr (Or.inr (Or.inl ⟨by omega, by omega, zJ, fun q => absurd q (by omega), rfl⟩))))⟩ | exact ⟨_, _, _, Or.inr (Or.inr (Or.inr (Or.inr (Or.inr (Or.inl ⟨by omega, by omega, zS, rfl, rfl⟩)))))⟩ | exact ⟨0, 0, 0, Or.inr (Or.inl ⟨by omega, by omega, by omega⟩)⟩ | exact ⟨0, 0, 0, Or.inr (Or.inr (Or.inr (Or.inr (Or.inr (Or.inr ⟨by omega, by omega, by omega, by omega, by omega, by omega⟩)))))⟩ | (exfalso; omega) | omega) (by first | exact Lo_h1397 | exact ⟨st.1, st.2.1, st.2.2.2.2⟩ | exact Or.inl ⟨by omega, zF, st.2.2.1, st.2.2.2.1⟩ | exact Or.inr (Or.inr (Or.inl ⟨by omega, by omega, zC, st.2.2.1, st.2.2.2.1⟩)) | exact Or.inr (Or.inr (Or.inr (Or.inl ⟨by omega, by omega, zW, st.2.2.2.1⟩))) | exact Or.inr (Or.inr (Or.inr (Or.inr (Or.inl ⟨by omega, by omega, zJ, fun _ => st.2.2.1, st.2.2.2.1⟩)))) | exact Or.inr (Or.inr (Or.inr (Or.inr (Or.inr (Or.inl ⟨by omega, by omega, zS, st.2.2.1, st.2.2.2.1⟩))))) | exact ⟨_, _, _, Or.inl ⟨by omega, zF, rfl, rfl⟩⟩ | exact ⟨_, _, _, Or.inr (Or.inr (Or.inl ⟨by omega, by omega, zC, rfl, rfl⟩))⟩ | exact ⟨_, _, _, Or.inr (Or.inr (Or.inr (Or.inl ⟨by omega, by omega, zW, rfl⟩)))⟩ | exact ⟨_, _, _, Or.inr (Or.inr (Or.inr (Or.inr (Or.inl ⟨by omega, by omega, zJ, fun q => absurd q (by omega), rfl⟩))))⟩ | exact ⟨_, _, _, Or.inr (Or.inr (Or.inr (Or.inr (Or.inr (Or.inl ⟨by omega, by omega, zS, rfl, rfl⟩)))))⟩ | exact ⟨0, 0, 0, Or.inr (Or.inl ⟨by omega, by omega, by omega⟩)⟩ | exact ⟨0, 0, 0, Or.inr (Or.inr (Or.inr (Or.inr (Or.inr (Or.inr ⟨by omega, by omega, by omega, by omega, by omega, by omega⟩)))))⟩ | (exfalso; omega) | omega) Ln_h1397 Sp_h1397 Al_h1397t1401 Cu_h1397t1402)
            ·
              have gh1403 : my_fr [(4, 4), (4, 5), (4, 6), (4, 7), (4, 8), (4, 9), (5, 5), (5, 6), (5, 7), (5, 8), (5, 9), (32, -1), (33, -1), (34, -1), (35, -1), (36, -1), (37, -1), (38, -1), (39, -1)] h h1403 := my_fr.tr gh1386 (frh1403.mo rfl)
              have Ln_h1403 : Ln h1403 := Ln_ag (my_ag.fr frh1403 rfl) Ln_h1386
              have Sp_h1403 : Sp h1403 wv := Sp_ag (my_ag.fr frh1403 rfl) hwv Ln_h1386 Sp_h1386
              have Lo_h1403 : Lo h h1403 := Lo_ag (my_ag.fr frh1403 rfl) Ln_h1386 Lo_h1386
              show wp l rho (d + 7) 49 99 [(2, 82), (0, 1), (0, 1), (0, 1), (0, 1), (0, 0)] [] h1403 Q
              have tE1412 : cs h1386 = cs h := cs_eq (fun j => my_fr.at gh1386 is_92 rfl) (my_fr.at gh1386 is_82 rfl)
              rw [tE1412] at xp1405
              have ps1413 : h1386 82 7 = (sN (cs h) (h 82 7)) := xc1394
              rw [ps1413] at xp1405
              have ck1414 := Cu_s Cu_h1403t1407
              rw [show cs h1403 = cs h from cs_eq (fun j => my_fr.at gh1403 is_92 rfl) (my_fr.at gh1403 is_82 rfl)] at ck1414
              have q2 : h1386 82 2 = h 82 2 := my_fr.at frh1386 is_82 rfl
              have q11 : h1386 (h 82 2) 1 = h (h 82 2) 1 := my_fr.at frh1386 n_Ln.2.2.2.1 rfl
              have q13 : h1386 (h 82 2) 3 = h (h 82 2) 3 := my_fr.at frh1386 n_Ln.2.2.2.1 rfl
              have q14 : h1386 (h 82 2) 4 = h (h 82 2) 4 := my_fr.at frh1386 n_Ln.2.2.2.1 rfl
              have q19 : h1386 (h 82 2) 9 = h (h 82 2) 9 := my_fr.at frh1386 n_Ln.2.2.2.1 rfl
              have qc : h1386 2 = h 2 := funext (fun j => my_fr.at frh1386 is_2 rfl)
              have zF := xp1405
              simp only [q2, q11, q13, q14, q19, qc] at zF
              have st : h1403 82 2 = h 82 2 ∧ h1403 (h 82 2) 3 = h (h 82 2) 3 ∧ h1403 (h 82 2) 4 = h (h 82 2) 4 ∧ h1403 (h 82 2) 9 = h (h 82 2) 9 ∧ h1403 (h 82 2) 1 = h (h 82 2) 1 := ⟨(my_fr.at frh1403 is_82 rfl).trans q2, (my_fr.at frh1403 n_Ln.2.2.2.1 rfl).trans q13, (my_fr.at frh1403 n_Ln.2.2.2.1 rfl).trans q14, (my_fr.at frh1403 n_Ln.2.2.2.1 rfl).trans q19, (my_fr.at frh1403 n_Ln.2.2.2.1 rfl).trans q11⟩
              refine w_goto (t := 140) gz_49_99 rfl ?_
              have psR : h1403 82 7 = h1403 82 7 := (rfl : h1403 82 7 = h1403 82 7)
              have npsR : cs h1403 = cs h := cs_eq (fun j => my_fr.at gh1403 is_92 rfl) (my_fr.at gh1403 is_82 rfl)
              have c1415 := w1404
              exact w_vret gz_49_140 gm_49 (k1 h1403 (gh1403) (by omega) (by first | exact Lo_h1403 | exact ⟨st.1, st.2.1, st.2.2.2.2⟩ | exact Or.inl ⟨by omega, zF, st.2.2.1, st.2.2.2.1⟩ | exact Or.inr (Or.inr (Or.inl ⟨by omega, by omega, zC, st.2.2.1, st.2.2.2.1⟩)) | exact Or.inr (Or.inr (Or.inr (Or.inl ⟨by omega, by omega, zW, st.2.2.2.1⟩))) | exact Or.inr (Or.inr (Or.inr (Or.inr (Or.inl ⟨by omega, by omega, zJ, fun _ => st.2.2.1, st.2.2.2.1⟩)))) | exact Or.inr (Or.inr (Or.inr (Or.inr (Or.inr (Or.inl ⟨by omega, by omega, zS, st.2.2.1, st.2.2.2.1⟩))))) | exact ⟨_, _, _, Or.inl ⟨by omega, zF, rfl, rfl⟩⟩ | exact ⟨_, _, _, Or.inr (Or.inr (Or.inl ⟨by omega, by omega, zC, rfl, rfl⟩))⟩ | exact ⟨_, _, _, Or.inr (Or.inr (Or.inr (Or.inl ⟨by omega, by omega, zW, rfl⟩)))⟩ | exact ⟨_, _, _, Or.inr (Or.inr (Or.inr (Or.inr (Or.inl ⟨by omega, by omega, zJ, fun q => absurd q (by omega), rfl⟩))))⟩ | exact ⟨_, _, _, Or.inr (Or.inr (Or.inr (Or.inr (Or.inr (Or.inl ⟨by omega, by omega, zS, rfl, rfl⟩)))))⟩ | exact ⟨0, 0, 0, Or.inr (Or.inl ⟨by omega, by omega, by omega⟩)⟩ | exact ⟨0, 0, 0, Or.inr (Or.inr (Or.inr (Or.inr (Or.inr (Or.inr ⟨by omega, by omega, by omega, by omega, by omega, by omega⟩)))))⟩ | (exfalso; omega) | omega) (by first | exact Lo_h1403 | exact ⟨st.1, st.2.1, st.2.2.2.2⟩ | exact Or.inl ⟨by omega, zF, st.2.2.1, st.2.2.2.1⟩ | exact Or.inr (Or.inr (Or.inl ⟨by omega, by omega, zC, st.2.2.1, st.2.2.2.1⟩)) | exact Or.inr (Or.inr (Or.inr (Or.inl ⟨by omega, by omega, zW, st.2.2.2.1⟩))) | exact Or.inr (Or.inr (Or.inr (Or.inr (Or.inl ⟨by omega, by omega, zJ, fun _ => st.2.2.1, st.2.2.2.1⟩)))) | exact Or.inr (Or.inr (Or.inr (Or.inr (Or.inr (Or.inl ⟨by omega, by omega, zS, st.2.2.1, st.2.2.2.1⟩))))) | exact ⟨_, _, _, Or.inl ⟨by omega, zF, rfl, rfl⟩⟩ | exact ⟨_, _, _, Or.inr (Or.inr (Or.inl ⟨by omega, by omega, zC, rfl, rfl⟩))⟩ | exact ⟨_, _, _, Or.inr (Or.inr (Or.inr (Or.inl ⟨by omega, by omega, zW, rfl⟩)))⟩ | exact ⟨_, _, _, Or.inr (Or.inr (Or.inr (Or.inr (Or.inl ⟨by omega, by omega, zJ, fun q => absurd q (by omega), rfl⟩))))⟩ | exact ⟨_, _, _, Or.inr (Or.inr (Or.inr (Or.inr (Or.inr (Or.inl ⟨by omega, by omega, zS, rfl, rfl⟩)))))⟩ | exact ⟨0, 0, 0, Or.inr (Or.inl ⟨by omega, by omega, by omega⟩)⟩ | exact ⟨0, 0, 0, Or.inr (Or.inr (Or.inr (Or.inr (Or.inr (Or.inr ⟨by omega, by omega, by omega, by omega, by omega, by omega⟩)))))⟩ | (exfalso; omega) | omega) (by first | exact Lo_h1403 | exact ⟨st.1, st.2.1, st.2.2.2.2⟩ | exact Or.inl ⟨by omega, zF, st.2.2.1, st.2.2.2.1⟩ | exact Or.inr (Or.inr (Or.inl ⟨by omega, by omega, zC, st.2.2.1, st.2.2.2.1⟩)) | exact Or.inr (Or.inr (Or.inr (Or.inl ⟨by omega, by omega, zW, st.2.2.2.1⟩))) | exact Or.inr (Or.inr (Or.inr (Or.inr (Or.inl ⟨by omega, by omega, zJ, fun _ => st.2.2.1, st.2.2.2.1⟩)))) | exact Or.inr (Or.inr (Or.inr (Or.inr (Or.inr (Or.inl ⟨by omega, by omega, zS, st.2.2.1, st.2.2.2.1⟩))))) | exact ⟨_, _, _, Or.inl ⟨by omega, zF, rfl, rfl⟩⟩ | exact ⟨_, _, _, Or.inr (Or.inr (Or.inl ⟨by omega, by omega, zC, rfl, rfl⟩))⟩ | exact ⟨_, _, _, Or.inr (Or.inr (Or.inr (Or.inl ⟨by omega, by omega, zW, rfl⟩)))⟩ | exact ⟨_, _, _, Or.inr (Or.inr (Or.inr (Or.inr (Or.inl ⟨by omega, by omega, zJ, fun q => absurd q (by omega), rfl⟩))))⟩ | exact ⟨_, _, _, Or.inr (Or.inr (Or.inr (Or.inr (Or.inr (Or.inl ⟨by omega, by omega, zS, rfl, rfl⟩)))))⟩ | exact ⟨0, 0, 0, Or.inr (Or.inl ⟨by omega, by omega, by omega⟩)⟩ | exact ⟨0, 0, 0, Or.inr (Or.inr (Or.inr (Or.inr (Or.inr (Or.inr ⟨by omega, by omega, by omega, by omega, by omega, by omega⟩)))))⟩ | (exfalso; omega) | omega) Ln_h1403 Sp_h1403 Al_h1403t1406 Cu_h1403t1407)
          ·
            show wp l rho (d + 7) 49 35 [(2, 82), (0, 1), (0, 1), (0, 1), (0, 1), (9, 0)] [(0, 1)] h Q
            rw [show wc ((8 : Nat) : Int) = 26801 from by decide] at xp1383
            refine w_istore (ls' := [(2, 82), (0, 1), (0, 1), (0, 1), (0, 1), (0, 1)]) gz_49_35 gm_49 rfl rfl rfl ?_
            refine w_iload_n gz_49_37 rfl ?_
            refine w_ifne (t := 65) gz_49_38 rfl (fun u1416 => ?_) (fun u1416 => by exfalso; omega)
            refine w_iload_n gz_49_65 rfl ?_
            refine w_ifne (t := 87) gz_49_66 rfl (fun u1417 => ?_) (fun u1417 => by exfalso; omega)
            refine w_aload_n gz_49_87 rfl ?_
            refine w_inv (k := 2) (as := []) (r := []) (x := 82) (ls0 := [(2, 82), (9, 0), (9, 0)]) gz_49_88 gm_37 rfl is_82 rd_5 rfl rfl rfl rfl rfl (c_Reader_nextToken9_f0 (d := (d + 5))  (cf.trans (by omega)) n_Al (fun h1418 frh1418 w1419 w1420 w1421 xp1422 xp1423 Al_h1418t1424 Cu_h1418t1425 => ?_))
            have gh1418 : my_fr [(4, 4), (4, 5), (4, 6), (4, 7), (4, 8), (4, 9), (5, 5), (5, 6), (5, 7), (5, 8), (5, 9), (32, -1), (33, -1), (34, -1), (35, -1), (36, -1), (37, -1), (38, -1), (39, -1)] h h1418 := my_fr.tr my_fr.rf (frh1418.mo rfl)
            have Ln_h1418 : Ln h1418 := Ln_ag (my_ag.fr frh1418 rfl) n_Ln
            have Sp_h1418 : Sp h1418 wv := Sp_ag (my_ag.fr frh1418 rfl) hwv n_Ln n_Sp
            have Lo_h1418 : Lo h h1418 := Lo_ag (my_ag.fr frh1418 rfl) n_Ln (Lo_rf)
            show wp l rho (d + 7) 49 91 [(2, 82), (0, 1), (0, 1), (0, 1), (0, 1), (0, 1)] [] h1418 Q
            have xc1426 := xp1422 n_Cu
            have ck1427 := Cu_s Cu_h1418t1425
            rw [show cs h1418 = cs h from cs_eq (fun j => my_fr.at gh1418 is_92 rfl) (my_fr.at gh1418 is_82 rfl)] at ck1427
            rw [show h1418 82 7 = (sN (cs h) (h 82 7)) from xc1426] at ck1427
            refine w_iload_n gz_49_91 rfl ?_
            refine w_ifeq (t := 102) gz_49_92 rfl (fun u1428 => by exfalso; omega) (fun u1428 => ?_)
            refine w_aload_n gz_49_95 rfl ?_
            refine w_inv (k := 2) (as := []) (r := []) (x := 82) (ls0 := [(2, 82), (9, 0), (9, 0)]) gz_49_96 gm_50 rfl is_82 rd_5 rfl rfl rfl rfl rfl (c_Reader_readFill9_f0 (d := (d + 3))  (((my_fr.at frh1418 is_82 rfl).trans cf).trans (by omega)) Al_h1418t1424 Cu_h1418t1425 (fun h1429 frh1429 w1430 w1431 xp1432 Al_h1429t1433 Cu_h1429t1434 => ?_) (fun h1435 frh1435 w1436 xp1437 Al_h1435t1438 Cu_h1435t1439 => ?_))
            ·
              have gh1429 : my_fr [(4, 4), (4, 5), (4, 6), (4, 7), (4, 8), (4, 9), (5, 5), (5, 6), (5, 7), (5, 8), (5, 9), (32, -1), (33, -1), (34, -1), (35, -1), (36, -1), (37, -1), (38, -1), (39, -1)] h h1429 := my_fr.tr gh1418 (frh1429.mo rfl)
              have Ln_h1429 : Ln h1429 := Ln_ag (my_ag.fr frh1429 rfl) Ln_h1418
              have Sp_h1429 : Sp h1429 wv := Sp_ag (my_ag.fr frh1429 rfl) hwv Ln_h1418 Sp_h1418
              have Lo_h1429 : Lo h h1429 := Lo_ag (my_ag.fr frh1429 rfl) Ln_h1418 Lo_h1418
              show wp l rho (d + 7) 49 99 [(2, 82), (0, 1), (0, 1), (0, 1), (0, 1), (0, 1)] [] h1429 Q
              have tE1440 : cs h1418 = cs h := cs_eq (fun j => my_fr.at gh1418 is_92 rfl) (my_fr.at gh1418 is_82 rfl)
              rw [tE1440] at xp1432
              have ps1441 : h1418 82 7 = (sN (cs h) (h 82 7)) := xc1426
              rw [ps1441] at xp1432
              have ck1442 := Cu_s Cu_h1429t1434
              rw [show cs h1429 = cs h from cs_eq (fun j => my_fr.at gh1429 is_92 rfl) (my_fr.at gh1429 is_82 rfl)] at ck1442
              have q2 : h1418 82 2 = h 82 2 := my_fr.at frh1418 is_82 rfl
              have q11 : h1418 (h 82 2) 1 = h (h 82 2) 1 := my_fr.at frh1418 n_Ln.2.2.2.1 rfl
              have q13 : h1418 (h 82 2) 3 = h (h 82 2) 3 := my_fr.at frh1418 n_Ln.2.2.2.1 rfl
              have q14 : h1418 (h 82 2) 4 = h (h 82 2) 4 := my_fr.at frh1418 n_Ln.2.2.2.1 rfl
              have q19 : h1418 (h 82 2) 9 = h (h 82 2) 9 := my_fr.at frh1418 n_Ln.2.2.2.1 rfl
              have qc : h1418 2 = h 2 := funext (fun j => my_fr.at frh1418 is_2 rfl)
              have zF := xp1432
              simp only [q2, q11, q13, q14, q19, qc] at zF
              have st : h1429 82 2 = h 82 2 ∧ h1429 (h 82 2) 3 = h (h 82 2) 3 ∧ h1429 (h 82 2) 4 = h (h 82 2) 4 ∧ h1429 (h 82 2) 9 = h (h 82 2) 9 ∧ h1429 (h 82 2) 1 = h (h 82 2) 1 := ⟨(my_fr.at frh1429 is_82 rfl).trans q2, (my_fr.at frh1429 n_Ln.2.2.2.1 rfl).trans q13, (my_fr.at frh1429 n_Ln.2.2.2.1 rfl).trans q14, (my_fr.at frh1429 n_Ln.2.2.2.1 rfl).trans q19, (my_fr.at frh1429 n_Ln.2.2.2.1 rfl).trans q11⟩
              refine w_goto (t := 140) gz_49_99 rfl ?_
              have psR : h1429 82 7 = h1429 82 7 := (rfl : h1429 82 7 = h1429 82 7)
              have npsR : cs h1429 = cs h := cs_eq (fun j => my_fr.at gh1429 is_92 rfl) (my_fr.at gh1429 is_82 rfl)
              have c1443 := (rfl : h1429 82 9 = h1429 82 9)
              exact w_vret gz_49_140 gm_49 (k0 h1429 (gh1429) (by omega) (by omega) (by first | exact Lo_h1429 | exact ⟨st.1, st.2.1, st.2.2.2.2⟩ | exact Or.inl ⟨by omega, zF, st.2.2.1, st.2.2.2.1⟩ | exact Or.inr (Or.inr (Or.inl ⟨by omega, by omega, zC, st.2.2.1, st.2.2.2.1⟩)) | exact Or.inr (Or.inr (Or.inr (Or.inl ⟨by omega, by omega, zW, st.2.2.2.1⟩))) | exact Or.inr (Or.inr (Or.inr (Or.inr (Or.inl ⟨by omega, by omega, zJ, fun _ => st.2.2.1, st.2.2.2.1⟩)))) | exact Or.inr (Or.inr (Or.inr (Or.inr (Or.inr (Or.inl ⟨by omega, by omega, zS, st.2.2.1, st.2.2.2.1⟩))))) | exact ⟨_, _, _, Or.inl ⟨by omega, zF, rfl, rfl⟩⟩ | exact ⟨_, _, _, Or.inr (Or.inr (Or.inl ⟨by omega, by omega, zC, rfl, rfl⟩))⟩ | exact ⟨_, _, _, Or.inr (Or.inr (Or.inr (Or.inl ⟨by omega, by omega, zW, rfl⟩)))⟩ | exact ⟨_, _, _, Or.inr (Or.inr (Or.inr (Or.inr (Or.inl ⟨by omega, by omega, zJ, fun q => absurd q (by omega), rfl⟩))))⟩ | exact ⟨_, _, _, Or.inr (Or.inr (Or.inr (Or.inr (Or.inr (Or.inl ⟨by omega, by omega, zS, rfl, rfl⟩)))))⟩ | exact ⟨0, 0, 0, Or.inr (Or.inl ⟨by omega, by omega, by omega⟩)⟩ | exact ⟨0, 0, 0, Or.inr (Or.inr (Or.inr (Or.inr (Or.inr (Or.inr ⟨by omega, by omega, by omega, by omega, by omega, by omega⟩)))))⟩ | (exfalso; omega) | omega) (by first | exact Lo_h1429 | exact ⟨st.1, st.2.1, st.2.2.2.2⟩ | exact Or.inl ⟨by omega, zF, st.2.2.1, st.2.2.2.1⟩ | exact Or.inr (Or.inr (Or.inl ⟨by omega, by omega, zC, st.2.2.1, st.2.2.2.1⟩)) | exact Or.inr (Or.inr (Or.inr (Or.inl ⟨by omega, by omega, zW, st.2.2.2.1⟩))) | exact Or.inr (Or.inr (Or.inr (Or.inr (Or.inl ⟨by omega, by omega, zJ, fun _ => st.2.2.1, st.2.2.2.1⟩)))) | exact Or.inr (Or.inr (Or.inr (Or.inr (Or.inr (Or.inl ⟨by omega, by omega, zS, st.2.2.1, st.2.2.2.1⟩))))) | exact ⟨_, _, _, Or.inl ⟨by omega, zF, rfl, rfl⟩⟩ | exact ⟨_, _, _, Or.inr (Or.inr (Or.inl ⟨by omega, by omega, zC, rfl, rfl⟩))⟩ | exact ⟨_, _, _, Or.inr (Or.inr (Or.inr (Or.inl ⟨by omega, by omega, zW, rfl⟩)))⟩ | exact ⟨_, _, _, Or.inr (Or.inr (Or.inr (Or.inr (Or.inl ⟨by omega, by omega, zJ, fun q => absurd q (by omega), rfl⟩))))⟩ | exact ⟨_, _, _, Or.inr (Or.inr (Or.inr (Or.inr (Or.inr (Or.inl ⟨by omega, by omega, zS, rfl, rfl⟩)))))⟩ | exact ⟨0, 0, 0, Or.inr (Or.inl ⟨by omega, by omega, by omega⟩)⟩ | exact ⟨0, 0, 0, Or.inr (Or.inr (Or.inr (Or.inr (Or.inr (Or.inr ⟨by omega, by omega, by omega, by omega, by omega, by omega⟩)))))⟩ | (exfalso; omega) | omega) Ln_h1429 Sp_h1429 Al_h1429t1433 Cu_h1429t1434)
            ·
              have gh1435 : my_fr [(4, 4), (4, 5), (4, 6), (4, 7), (4, 8), (4, 9), (5, 5), (5, 6), (5, 7), (5, 8), (5, 9), (32, -1), (33, -1), (34, -1), (35, -1), (36, -1), (37, -1), (38, -1), (39, -1)] h h1435 := my_fr.tr gh1418 (frh1435.mo rfl)
              have Ln_h1435 : Ln h1435 := Ln_ag (my_ag.fr frh1435 rfl) Ln_h1418
              have Sp_h1435 : Sp h1435 wv := Sp_ag (my_ag.fr frh1435 rfl) hwv Ln_h1418 Sp_h1418
              have Lo_h1435 : Lo h h1435 := Lo_ag (my_ag.fr frh1435 rfl) Ln_h1418 Lo_h1418
              show wp l rho (d + 7) 49 99 [(2, 82), (0, 1), (0, 1), (0, 1), (0, 1), (0, 1)] [] h1435 Q
              have tE1444 : cs h1418 = cs h := cs_eq (fun j => my_fr.at gh1418 is_92 rfl) (my_fr.at gh1418 is_82 rfl)
              rw [tE1444] at xp1437
              have ps1445 : h1418 82 7 = (sN (cs h) (h 82 7)) := xc1426
              rw [ps1445] at xp1437
              have ck1446 := Cu_s Cu_h1435t1439
              rw [show cs h1435 = cs h from cs_eq (fun j => my_fr.at gh1435 is_92 rfl) (my_fr.at gh1435 is_82 rfl)] at ck1446
              have q2 : h1418 82 2 = h 82 2 := my_fr.at frh1418 is_82 rfl
              have q11 : h1418 (h 82 2) 1 = h (h 82 2) 1 := my_fr.at frh1418 n_Ln.2.2.2.1 rfl
              have q13 : h1418 (h 82 2) 3 = h (h 82 2) 3 := my_fr.at frh1418 n_Ln.2.2.2.1 rfl
              have q14 : h1418 (h 82 2) 4 = h (h 82 2) 4 := my_fr.at frh1418 n_Ln.2.2.2.1 rfl
              have q19 : h1418 (h 82 2) 9 = h (h 82 2) 9 := my_fr.at frh1418 n_Ln.2.2.2.1 rfl
              have qc : h1418 2 = h 2 := funext (fun j => my_fr.at frh1418 is_2 rfl)
              have zF := xp1437
              simp only [q2, q11, q13, q14, q19, qc] at zF
              have st : h1435 82 2 = h 82 2 ∧ h1435 (h 82 2) 3 = h (h 82 2) 3 ∧ h1435 (h 82 2) 4 = h (h 82 2) 4 ∧ h1435 (h 82 2) 9 = h (h 82 2) 9 ∧ h1435 (h 82 2) 1 = h (h 82 2) 1 := ⟨(my_fr.at frh1435 is_82 rfl).trans q2, (my_fr.at frh1435 n_Ln.2.2.2.1 rfl).trans q13, (my_fr.at frh1435 n_Ln.2.2.2.1 rfl).trans q14, (my_fr.at frh1435 n_Ln.2.2.2.1 rfl).trans q19, (my_fr.at frh1435 n_Ln.2.2.2.1 rfl).trans q11⟩
              refine w_goto (t := 140) gz_49_99 rfl ?_
              have psR : h1435 82 7 = h1435 82 7 := (rfl : h1435 82 7 = h1435 82 7)
              have npsR : cs h1435 = cs h := cs_eq (fun j => my_fr.at gh1435 is_92 rfl) (my_fr.at gh1435 is_82 rfl)
              have c1447 := w1436
              exact w_vret gz_49_140 gm_49 (k1 h1435 (gh1435) (by omega) (by first | exact Lo_h1435 | exact ⟨st.1, st.2.1, st.2.2.2.2⟩ | exact Or.inl ⟨by omega, zF, st.2.2.1, st.2.2.2.1⟩ | exact Or.inr (Or.inr (Or.inl ⟨by omega, by omega, zC, st.2.2.1, st.2.2.2.1⟩)) | exact Or.inr (Or.inr (Or.inr (Or.inl ⟨by omega, by omega, zW, st.2.2.2.1⟩))) | exact Or.inr (Or.inr (Or.inr (Or.inr (Or.inl ⟨by omega, by omega, zJ, fun _ => st.2.2.1, st.2.2.2.1⟩)))) | exact Or.inr (Or.inr (Or.inr (Or.inr (Or.inr (Or.inl ⟨by omega, by omega, zS, st.2.2.1, st.2.2.2.1⟩))))) | exact ⟨_, _, _, Or.inl ⟨by omega, zF, rfl, rfl⟩⟩ | exact ⟨_, _, _, Or.inr (Or.inr (Or.inl ⟨by omega, by omega, zC, rfl, rfl⟩))⟩ | exact ⟨_, _, _, Or.inr (Or.inr (Or.inr (Or.inl ⟨by omega, by omega, zW, rfl⟩)))⟩ | exact ⟨_, _, _, Or.inr (Or.inr (Or.inr (Or.inr (Or.inl ⟨by omega, by omega, zJ, fun q => absurd q (by omega), rfl⟩))))⟩ | exact ⟨_, _, _, Or.inr (Or.inr (Or.inr (Or.inr (Or.inr (Or.inl ⟨by omega, by omega, zS, rfl, rfl⟩)))))⟩ | exact ⟨0, 0, 0, Or.inr (Or.inl ⟨by omega, by omega, by omega⟩)⟩ | exact ⟨0, 0, 0, Or.inr (Or.inr (Or.inr (Or.inr (Or.inr (Or.inr ⟨by omega, by omega, by omega, by omega, by omega, by omega⟩)))))⟩ | (exfalso; omega) | omega) (by first | exact Lo_h1435 | exact ⟨st.1, st.2.1, st.2.2.2.2⟩ | exact Or.inl ⟨by omega, zF, st.2.2.1, st.2.2.2.1⟩ | exact Or.inr (Or.inr (Or.inl ⟨by omega, by omega, zC, st.2.2.1, st.2.2.2.1⟩)) | exact Or.inr (Or.inr (Or.inr (Or.inl ⟨by omega, by omega, zW, st.2.2.2.1⟩))) | exact Or.inr (Or.inr (Or.inr (Or.inr (Or.inl ⟨by omega, by omega, zJ, fun _ => st.2.2.1, st.2.2.2.1⟩)))) | exact Or.inr (Or.inr (Or.inr (Or.inr (Or.inr (Or.inl ⟨by omega, by omega, zS, st.2.2.1, st.2.2.2.1⟩))))) | exact ⟨_, _, _, Or.inl ⟨by omega, zF, rfl, rfl⟩⟩ | exact ⟨_, _, _, Or.inr (Or.inr (Or.inl ⟨by omega, by omega, zC, rfl, rfl⟩))⟩ | exact ⟨_, _, _, Or.inr (Or.inr (Or.inr (Or.inl ⟨by omega, by omega, zW, rfl⟩)))⟩ | exact ⟨_, _, _, Or.inr (Or.inr (Or.inr (Or.inr (Or.inl ⟨by omega, by omega, zJ, fun q => absurd q (by omega), rfl⟩))))⟩ | exact ⟨_, _, _, Or.inr (Or.inr (Or.inr (Or.inr (Or.inr (Or.inl ⟨by omega, by omega, zS, rfl, rfl⟩)))))⟩ | exact ⟨0, 0, 0, Or.inr (Or.inl ⟨by omega, by omega, by omega⟩)⟩ | exact ⟨0, 0, 0, Or.inr (Or.inr (Or.inr (Or.inr (Or.inr (Or.inr ⟨by omega, by omega, by omega, by omega, by omega, by omega⟩)))))⟩ | (exfalso; omega) | omega) (by first | exact Lo_h1435 | exact ⟨st.1, st.2.1, st.2.2.2.2⟩ | exact Or.inl ⟨by omega, zF, st.2.2.1, st.2.2.2.1⟩ | exact Or.inr (Or.inr (Or.inl ⟨by omega, by omega, zC, st.2.2.1, st.2.2.2.1⟩)) | exact Or.inr (Or.inr (Or.inr (Or.inl ⟨by omega, by omega, zW, st.2.2.2.1⟩))) | exact Or.inr (Or.inr (Or.inr (Or.inr (Or.inl ⟨by omega, by omega, zJ, fun _ => st.2.2.1, st.2.2.2.1⟩)))) | exact Or.inr (Or.inr (Or.inr (Or.inr (Or.inr (Or.inl ⟨by omega, by omega, zS, st.2.2.1, st.2.2.2.1⟩))))) | exact ⟨_, _, _, Or.inl ⟨by omega, zF, rfl, rfl⟩⟩ | exact ⟨_, _, _, Or.inr (Or.inr (Or.inl ⟨by omega, by omega, zC, rfl, rfl⟩))⟩ | exact ⟨_, _, _, Or.inr (Or.inr (Or.inr (Or.inl ⟨by omega, by omega, zW, rfl⟩)))⟩ | exact ⟨_, _, _, Or.inr (Or.inr (Or.inr (Or.inr (Or.inl ⟨by omega, by omega, zJ, fun q => absurd q (by omega), rfl⟩))))⟩ | exact ⟨_, _, _, Or.inr (Or.inr (Or.inr (Or.inr (Or.inr (Or.inl ⟨by omega, by omega, zS, rfl, rfl⟩)))))⟩ | exact ⟨0, 0, 0, Or.inr (Or.inl ⟨by omega, by omega, by omega⟩)⟩ | exact ⟨0, 0, 0, Or.inr (Or.inr (Or.inr (Or.inr (Or.inr (Or.inr ⟨by omega, by omega, by omega, by omega, by omega, by omega⟩)))))⟩ | (exfalso; omega) | omega) Ln_h1435 Sp_h1435 Al_h1435t1438 Cu_h1435t1439)
end MYNReader_readPane9_f0
