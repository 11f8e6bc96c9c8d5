/-! contracts, printed by wip/gen/gy.py -/
section MYNReader_readPane9_f0
theorem c_Reader_readPane9_f0 {l : Launch} {rho : Nat → Int32} {d : Nat} {h : my_H} {Q : my_H → my_V → Prop} {wv : Int} (cf : h 82 9 = 0) (hwv : wv ≤ 5) (hwv0 : 0 ≤ wv) (n_Ln : Ln h) (n_Sp : Sp h wv) (n_Al : Al h) (n_Cu : Cu h) (k0 : ∀ (h' : my_H), my_fr [(4, 4), (4, 5), (4, 6), (4, 7), (4, 8), (4, 9), (5, 5), (5, 6), (5, 7), (5, 8), (5, 9), (32, -1), (33, -1), (34, -1), (35, -1), (36, -1), (37, -1), (38, -1), (39, -1)] h h' → 1 ≤ h' 82 9 → h' 82 9 ≤ 16005 → (∃ y c s : Int, paneR (cs h) (h 2) (h (h 82 2) 3) (h 82 7) (h (h 82 2) 4) (h (h 82 2) 9) (h' 82 9) y c s) → Lo h h' → Ln h' → Sp h' wv → Al h' → Cu h' → Q h' (9, 0)) (k1 : ∀ (h' : my_H), my_fr [(4, 4), (4, 5), (4, 6), (4, 7), (4, 8), (4, 9), (5, 5), (5, 6), (5, 7), (5, 8), (5, 9), (32, -1), (33, -1), (34, -1), (35, -1), (36, -1), (37, -1), (38, -1), (39, -1)] h h' → h' 82 9 = 0 → paneR (cs h) (h 2) (h (h 82 2) 3) (h 82 7) (h (h 82 2) 4) (h (h 82 2) 9) (h' 82 9) (h' 82 7) (h' (h 82 2) 4) (h' (h 82 2) 9) → h' 82 2 = h 82 2 ∧ h' (h 82 2) 3 = h (h 82 2) 3 ∧ h' (h 82 2) 1 = h (h 82 2) 1 → Lo h h' → Ln h' → Sp h' wv → Al h' → Cu h' → Q h' (9, 0)) : wp l rho (d + 7) 49 0 [(2, 82), (9, 0), (9, 0), (9, 0), (9, 0), (9, 0)] [] h Q := by
  have ck1 := Cu_s n_Cu
  refine w_aload_n gz_49_0 rfl ?_
  refine w_ldcS gz_49_1 (by decide) ?_
  refine w_inv (k := 1) (as := [(3, ((4 : Nat) : Int))]) (r := []) (x := 82) (ls0 := [(2, 82), (3, ((4 : Nat) : Int)), (9, 0)]) gz_49_3 gm_41 rfl is_82 rd_5 rfl rfl rfl rfl rfl (c_Reader_isWord9_f0 (d := (d + 2)) (x1 := ((4 : Nat) : Int)) (by decide) (cf.trans (by omega)) n_Cu (fun w2 xp3 => ?_) (fun w4 w5 xp6 => ?_))
  ·
    show wp l rho (d + 7) 49 6 [(2, 82), (9, 0), (9, 0), (9, 0), (9, 0), (9, 0)] [(0, 0)] h Q
    rw [show wc ((4 : Nat) : Int) = 316695 from by decide] at xp3
    refine w_istore_n (ls' := [(2, 82), (0, 0), (9, 0), (9, 0), (9, 0), (9, 0)]) gz_49_6 gm_49 rfl rfl rfl ?_
    refine w_aload_n gz_49_7 rfl ?_
    refine w_ldcS gz_49_8 (by decide) ?_
    refine w_inv (k := 1) (as := [(3, ((5 : Nat) : Int))]) (r := []) (x := 82) (ls0 := [(2, 82), (3, ((5 : Nat) : Int)), (9, 0)]) gz_49_10 gm_41 rfl is_82 rd_5 rfl rfl rfl rfl rfl (c_Reader_isWord9_f0 (d := (d + 2)) (x1 := ((5 : Nat) : Int)) (by decide) (cf.trans (by omega)) n_Cu (fun w7 xp8 => ?_) (fun w9 w10 xp11 => ?_))
    ·
      show wp l rho (d + 7) 49 13 [(2, 82), (0, 0), (9, 0), (9, 0), (9, 0), (9, 0)] [(0, 0)] h Q
      rw [show wc ((5 : Nat) : Int) = 4904 from by decide] at xp8
      refine w_istore_n (ls' := [(2, 82), (0, 0), (0, 0), (9, 0), (9, 0), (9, 0)]) gz_49_13 gm_49 rfl rfl rfl ?_
      refine w_aload_n gz_49_14 rfl ?_
      refine w_ldcS gz_49_15 (by decide) ?_
      refine w_inv (k := 1) (as := [(3, ((6 : Nat) : Int))]) (r := []) (x := 82) (ls0 := [(2, 82), (3, ((6 : Nat) : Int)), (9, 0)]) gz_49_17 gm_41 rfl is_82 rd_5 rfl rfl rfl rfl rfl (c_Reader_isWord9_f0 (d := (d + 2)) (x1 := ((6 : Nat) : Int)) (by decide) (cf.trans (by omega)) n_Cu (fun w12 xp13 => ?_) (fun w14 w15 xp16 => ?_))
      ·
        show wp l rho (d + 7) 49 20 [(2, 82), (0, 0), (0, 0), (9, 0), (9, 0), (9, 0)] [(0, 0)] h Q
        rw [show wc ((6 : Nat) : Int) = 8422 from by decide] at xp13
        refine w_istore_n (ls' := [(2, 82), (0, 0), (0, 0), (0, 0), (9, 0), (9, 0)]) gz_49_20 gm_49 rfl rfl rfl ?_
        refine w_aload_n gz_49_21 rfl ?_
        refine w_ldcS gz_49_22 (by decide) ?_
        refine w_inv (k := 1) (as := [(3, ((7 : Nat) : Int))]) (r := []) (x := 82) (ls0 := [(2, 82), (3, ((7 : Nat) : Int)), (9, 0)]) gz_49_24 gm_41 rfl is_82 rd_5 rfl rfl rfl rfl rfl (c_Reader_isWord9_f0 (d := (d + 2)) (x1 := ((7 : Nat) : Int)) (by decide) (cf.trans (by omega)) n_Cu (fun w17 xp18 => ?_) (fun w19 w20 xp21 => ?_))
        ·
          show wp l rho (d + 7) 49 27 [(2, 82), (0, 0), (0, 0), (0, 0), (9, 0), (9, 0)] [(0, 0)] h Q
          rw [show wc ((7 : Nat) : Int) = 527412 from by decide] at xp18
          refine w_istore (ls' := [(2, 82), (0, 0), (0, 0), (0, 0), (0, 0), (9, 0)]) gz_49_27 gm_49 rfl rfl rfl ?_
          refine w_aload_n gz_49_29 rfl ?_
          refine w_ldcS gz_49_30 (by decide) ?_
          refine w_inv (k := 1) (as := [(3, ((8 : Nat) : Int))]) (r := []) (x := 82) (ls0 := [(2, 82), (3, ((8 : Nat) : Int)), (9, 0)]) gz_49_32 gm_41 rfl is_82 rd_5 rfl rfl rfl rfl rfl (c_Reader_isWord9_f0 (d := (d + 2)) (x1 := ((8 : Nat) : Int)) (by decide) (cf.trans (by omega)) n_Cu (fun w22 xp23 => ?_) (fun w24 w25 xp26 => ?_))
          ·
            show wp l rho (d + 7) 49 35 [(2, 82), (0, 0), (0, 0), (0, 0), (0, 0), (9, 0)] [(0, 0)] h Q
            rw [show wc ((8 : Nat) : Int) = 26801 from by decide] at xp23
            refine w_istore (ls' := [(2, 82), (0, 0), (0, 0), (0, 0), (0, 0), (0, 0)]) gz_49_35 gm_49 rfl rfl rfl ?_
            refine w_iload_n gz_49_37 rfl ?_
            refine w_ifne (t := 65) gz_49_38 rfl (fun u27 => by exfalso; omega) (fun u27 => ?_)
            refine w_iload_n gz_49_41 rfl ?_
            refine w_ifne (t := 65) gz_49_42 rfl (fun u28 => by exfalso; omega) (fun u28 => ?_)
            refine w_iload_n gz_49_45 rfl ?_
            refine w_ifne (t := 65) gz_49_46 rfl (fun u29 => by exfalso; omega) (fun u29 => ?_)
            refine w_iload gz_49_49 rfl ?_
            refine w_ifne (t := 65) gz_49_51 rfl (fun u30 => by exfalso; omega) (fun u30 => ?_)
            refine w_iload gz_49_54 rfl ?_
            refine w_ifne (t := 65) gz_49_56 rfl (fun u31 => by exfalso; omega) (fun u31 => ?_)
            refine w_aload_n gz_49_59 rfl ?_
            refine w_iconst gz_49_60 (by decide) ?_
            refine w_inv (k := 0) (as := [(0, 1)]) (r := []) (x := 82) (ls0 := [(2, 82), (0, 1)]) gz_49_61 gm_42 rfl is_82 rd_5 rfl rfl rfl rfl rfl ?_
            refine w_aload_n gz_42_0 rfl ?_
            refine v_getI (j := 9) gz_42_1 rfl is_82 rd_5 rfl (fun v32 ev32 pv32 qv32 => ?_)
            have zv32 := ev32.trans cf
            refine w_ifne (t := 20) gz_42_4 rfl (fun u33 => by exfalso; omega) (fun u33 => ?_)
            refine w_aload_n gz_42_7 rfl ?_
            refine w_iload_n gz_42_8 rfl ?_
            refine w_bipush gz_42_9 (by decide) ?_
            refine w_aload_n gz_42_11 rfl ?_
            refine v_getI (j := 7) gz_42_12 rfl is_82 rd_5 rfl (fun v34 ev34 pv34 qv34 => ?_)
            refine w_imul gz_42_15 ⟨by omega, by omega⟩ ?_
            refine w_iadd gz_42_16 ⟨by omega, by omega⟩ ?_
            refine v_putI (j := 9) gz_42_17 rfl is_82 rd_5 rfl (by omega) (by omega) rfl (fun h35 fh35 => ?_)
            have gh35 : my_fr [(4, 4), (4, 5), (4, 6), (4, 7), (4, 8), (4, 9), (5, 5), (5, 6), (5, 7), (5, 8), (5, 9), (32, -1), (33, -1), (34, -1), (35, -1), (36, -1), (37, -1), (38, -1), (39, -1)] h h35 := my_fr.up my_fr.rf is_82 fh35 rfl
            have Ln_h35 : Ln h35 := Ln_ag (my_ag.up fh35 is_82 rfl) n_Ln
            have Sp_h35 : Sp h35 wv := Sp_ag (my_ag.up fh35 is_82 rfl) hwv n_Ln n_Sp
            have Al_h35 : Al h35 := Al_ag (my_ag.up fh35 is_82 rfl) n_Al
            have Cu_h35 : Cu h35 := Cu_ag (my_ag.up fh35 is_82 rfl) n_Cu
            have Lo_h35 : Lo h h35 := Lo_ag (my_ag.up fh35 is_82 rfl) n_Ln (Lo_rf)
            refine w_vret gz_42_20 gm_42 ?_
            show wp l rho (d + 7) 49 64 [(2, 82), (0, 0), (0, 0), (0, 0), (0, 0), (0, 0)] [] h35 Q
            have psR : h35 82 7 = h 82 7 := ((my_up_fld fh35 (by decide)).trans (rfl : h 82 7 = h 82 7))
            have npsR : cs h35 = cs h := cs_eq (fun j => my_fr.at gh35 is_92 rfl) (my_fr.at gh35 is_82 rfl)
            have c36 := (my_up_self fh35)
            exact w_vret gz_49_64 gm_49 (k0 h35 (gh35) (by omega) (by omega) (by first | exact Lo_h35 | exact ⟨st.1, st.2.1, st.2.2.2.2⟩ | exact Or.inl ⟨by omega, zF, st.2.2.1, st.2.2.2.1⟩ | exact Or.inr (Or.inr (Or.inl ⟨by omega, by omega, zC, st.2.2.1, st.2.2.2.1⟩)) | exact Or.inr (Or.inr (Or.inr (Or.inl ⟨by omega, by omega, zW, st.2.2.2.1⟩))) | exact Or.inr (Or.inr (Or.inr (Or.inr (Or.inl ⟨by omega, by omega, zJ, fun _ => st.2.2.1, st.2.2.2.1⟩)))) | exact Or.inr (Or.inr (Or.inr (Or.inr (Or.inr (Or.inl ⟨by omega, by omega, zS, st.2.2.1, st.2.2.2.1⟩))))) | exact ⟨_, _, _, Or.inl ⟨by omega, zF, rfl, rfl⟩⟩ | exact ⟨_, _, _, Or.inr (Or.inr (Or.inl ⟨by omega, by omega, zC, rfl, rfl⟩))⟩ | exact ⟨_, _, _, Or.inr (Or.inr (Or.inr (Or.inl ⟨by omega, by omega, zW, rfl⟩)))⟩ | exact ⟨_, _, _, Or.inr (Or.inr (Or.inr (Or.inr (Or.inl ⟨by omega, by omega, zJ, fun q => absurd q (by omega), rfl⟩))))⟩ | exact ⟨_, _, _, Or.inr (Or.inr (Or.inr (Or.inr (Or.inr (Or.inl ⟨by omega, by omega, zS, rfl, rfl⟩)))))⟩ | exact ⟨0, 0, 0, Or.inr (Or.inl ⟨by omega, by omega, by omega⟩)⟩ | exact ⟨0, 0, 0, Or.inr (Or.inr (Or.inr (Or.inr (Or.inr (Or.inr ⟨by omega, by omega, by omega, by omega, by omega, by omega⟩)))))⟩ | (exfalso; omega) | omega) (by first | exact Lo_h35 | exact ⟨st.1, st.2.1, st.2.2.2.2⟩ | exact Or.inl ⟨by omega, zF, st.2.2.1, st.2.2.2.1⟩ | exact Or.inr (Or.inr (Or.inl ⟨by omega, by omega, zC, st.2.2.1, st.2.2.2.1⟩)) | exact Or.inr (Or.inr (Or.inr (Or.inl ⟨by omega, by omega, zW, st.2.2.2.1⟩))) | exact Or.inr (Or.inr (Or.inr (Or.inr (Or.inl ⟨by omega, by omega, zJ, fun _ => st.2.2.1, st.2.2.2.1⟩)))) | exact Or.inr (Or.inr (Or.inr (Or.inr (Or.inr (Or.inl ⟨by omega, by omega, zS, st.2.2.1, st.2.2.2.1⟩))))) | exact ⟨_, _, _, Or.inl ⟨by omega, zF, rfl, rfl⟩⟩ | exact ⟨_, _, _, Or.inr (Or.inr (Or.inl ⟨by omega, by omega, zC, rfl, rfl⟩))⟩ | exact ⟨_, _, _, Or.inr (Or.inr (Or.inr (Or.inl ⟨by omega, by omega, zW, rfl⟩)))⟩ | exact ⟨_, _, _, Or.inr (Or.inr (Or.inr (Or.inr (Or.inl ⟨by omega, by omega, zJ, fun q => absurd q (by omega), rfl⟩))))⟩ | exact ⟨_, _, _, Or.inr (Or.inr (Or.inr (Or.inr (Or.inr (Or.inl ⟨by omega, by omega, zS, rfl, rfl⟩)))))⟩ | exact ⟨0, 0, 0, Or.inr (Or.inl ⟨by omega, by omega, by omega⟩)⟩ | exact ⟨0, 0, 0, Or.inr (Or.inr (Or.inr (Or.inr (Or.inr (Or.inr ⟨by omega, by omega, by omega, by omega, by omega, by omega⟩)))))⟩ | (exfalso; omega) | omega) Ln_h35 Sp_h35 Al_h35 Cu_h35)
          ·
            show wp l rho (d + 7) 49 35 [(2, 82), (0, 0), (0, 0), (0, 0), (0, 0), (9, 0)] [(0, 1)] h Q
            rw [show wc ((8 : Nat) : Int) = 26801 from by decide] at xp26
            refine w_istore (ls' := [(2, 82), (0, 0), (0, 0), (0, 0), (0, 0), (0, 1)]) gz_49_35 gm_49 rfl rfl rfl ?_
            refine w_iload_n gz_49_37 rfl ?_
            refine w_ifne (t := 65) gz_49_38 rfl (fun u37 => by exfalso; omega) (fun u37 => ?_)
            refine w_iload_n gz_49_41 rfl ?_
            refine w_ifne (t := 65) gz_49_42 rfl (fun u38 => by exfalso; omega) (fun u38 => ?_)
            refine w_iload_n gz_49_45 rfl ?_
            refine w_ifne (t := 65) gz_49_46 rfl (fun u39 => by exfalso; omega) (fun u39 => ?_)
            refine w_iload gz_49_49 rfl ?_
            refine w_ifne (t := 65) gz_49_51 rfl (fun u40 => by exfalso; omega) (fun u40 => ?_)
            refine w_iload gz_49_54 rfl ?_
            refine w_ifne (t := 65) gz_49_56 rfl (fun u41 => ?_) (fun u41 => by exfalso; omega)
            refine w_iload_n gz_49_65 rfl ?_
            refine w_ifne (t := 87) gz_49_66 rfl (fun u42 => by exfalso; omega) (fun u42 => ?_)
            refine w_aload_n gz_49_69 rfl ?_
            refine v_getR (j := 2) gz_49_70 rfl is_82 rd_5 rfl (fun v43 ev43 tv43 => ?_)
            have sE73 : v43 = h 82 2 := by first | assumption | omega
            refine v_getI (j := 9) gz_49_73 rfl tv43 rd_4 rfl (fun v44 ev44 pv44 qv44 => ?_)
            have c76 : v44 = h (h 82 2) 9 := by rw [← sE73]; omega
            refine w_bipush gz_49_76 (by decide) ?_
            refine w_iclt (t := 87) gz_49_78 rfl (fun u45 => ?_) (fun u45 => ?_)
            ·
              have St5_ht46 : St5 h := ⟨by subst_vars; omega, by subst_vars; omega⟩
              refine w_aload_n gz_49_87 rfl ?_
              refine w_inv (k := 2) (as := []) (r := []) (x := 82) (ls0 := [(2, 82), (9, 0), (9, 0)]) gz_49_88 gm_37 rfl is_82 rd_5 rfl rfl rfl rfl rfl (c_Reader_nextToken9_f0 (d := (d + 5))  (cf.trans (by omega)) n_Al (fun h47 frh47 w48 w49 w50 xp51 xp52 Al_h47t53 Cu_h47t54 => ?_))
              have gh47 : my_fr [(4, 4), (4, 5), (4, 6), (4, 7), (4, 8), (4, 9), (5, 5), (5, 6), (5, 7), (5, 8), (5, 9), (32, -1), (33, -1), (34, -1), (35, -1), (36, -1), (37, -1), (38, -1), (39, -1)] h h47 := my_fr.tr my_fr.rf (frh47.mo rfl)
              have Ln_h47 : Ln h47 := Ln_ag (my_ag.fr frh47 rfl) n_Ln
              have Sp_h47 : Sp h47 wv := Sp_ag (my_ag.fr frh47 rfl) hwv n_Ln n_Sp
              have Lo_h47 : Lo h h47 := Lo_ag (my_ag.fr frh47 rfl) n_Ln (Lo_rf)
              have St5_h47 : St5 h47 := St5_ag (my_ag.fr frh47 rfl) n_Ln St5_ht46
              show wp l rho (d + 7) 49 91 [(2, 82), (0, 0), (0, 0), (0, 0), (0, 0), (0, 1)] [] h47 Q
              have xc55 := xp51 n_Cu
              have ck56 := Cu_s Cu_h47t54
              rw [show cs h47 = cs h from cs_eq (fun j => my_fr.at gh47 is_92 rfl) (my_fr.at gh47 is_82 rfl)] at ck56
              rw [show h47 82 7 = (sN (cs h) (h 82 7)) from xc55] at ck56
              refine w_iload_n gz_49_91 rfl ?_
              refine w_ifeq (t := 102) gz_49_92 rfl (fun u57 => ?_) (fun u57 => by exfalso; omega)
              refine w_iload_n gz_49_102 rfl ?_
              refine w_ifeq (t := 113) gz_49_103 rfl (fun u58 => ?_) (fun u58 => by exfalso; omega)
              refine w_iload_n gz_49_113 rfl ?_
              refine w_ifeq (t := 124) gz_49_114 rfl (fun u59 => ?_) (fun u59 => by exfalso; omega)
              refine w_iload gz_49_124 rfl ?_
              refine w_ifeq (t := 136) gz_49_126 rfl (fun u60 => ?_) (fun u60 => by exfalso; omega)
              refine w_aload_n gz_49_136 rfl ?_
              refine w_inv (k := 2) (as := []) (r := []) (x := 82) (ls0 := [(2, 82), (9, 0), (9, 0)]) gz_49_137 gm_62 rfl is_82 rd_5 rfl rfl rfl rfl rfl (c_Reader_readSum9_f0 (d := d)  (wv := wv) (((my_fr.at frh47 is_82 rfl).trans cf).trans (by omega)) (by first | assumption | omega) (by first | assumption | omega) Ln_h47 Sp_h47 St5_h47 Al_h47t53 Cu_h47t54 (fun h61 frh61 w62 w63 xp64 xp65 Ln_h61t66 Sp_h61t67 Al_h61t68 Cu_h61t69 => ?_) (fun h70 frh70 w71 xp72 xp73 xp74 Ln_h70t75 Sp_h70t76 Al_h70t77 Cu_h70t78 => ?_))
              ·
                have gh61 : my_fr [(4, 4), (4, 5), (4, 6), (4, 7), (4, 8), (4, 9), (5, 5), (5, 6), (5, 7), (5, 8), (5, 9), (32, -1), (33, -1), (34, -1), (35, -1), (36, -1), (37, -1), (38, -1), (39, -1)] h h61 := my_fr.tr gh47 (frh61.mo rfl)
                show wp l rho (d + 7) 49 140 [(2, 82), (0, 0), (0, 0), (0, 0), (0, 0), (0, 1)] [] h61 Q
                have tE79 : cs h47 = cs h := cs_eq (fun j => my_fr.at gh47 is_92 rfl) (my_fr.at gh47 is_82 rfl)
                rw [tE79] at xp64
                have ps80 : h47 82 7 = (sN (cs h) (h 82 7)) := xc55
                rw [ps80] at xp64
                have q2 : h47 82 2 = h 82 2 := my_fr.at frh47 is_82 rfl
                have q11 : h47 (h 82 2) 1 = h (h 82 2) 1 := my_fr.at frh47 n_Ln.2.2.2.1 rfl
                have q13 : h47 (h 82 2) 3 = h (h 82 2) 3 := my_fr.at frh47 n_Ln.2.2.2.1 rfl
                have q14 : h47 (h 82 2) 4 = h (h 82 2) 4 := my_fr.at frh47 n_Ln.2.2.2.1 rfl
                have q19 : h47 (h 82 2) 9 = h (h 82 2) 9 := my_fr.at frh47 n_Ln.2.2.2.1 rfl
                have qc : h47 2 = h 2 := funext (fun j => my_fr.at frh47 is_2 rfl)
                have zS := xp64
                simp only [q2, q11, q13, q14, q19, qc] at zS
                have Lo_h61t81 : Lo h h61 := Lo_tr Lo_h47 xp65
                have psR : h61 82 7 = h61 82 7 := (rfl : h61 82 7 = h61 82 7)
                have npsR : cs h61 = cs h := cs_eq (fun j => my_fr.at gh61 is_92 rfl) (my_fr.at gh61 is_82 rfl)
                have c82 := (rfl : h61 82 9 = h61 82 9)
                exact w_vret gz_49_140 gm_49 (k0 h61 (gh61) (by omega) (by omega) (by first | exact Lo_h61t81 | exact ⟨st.1, st.2.1, st.2.2.2.2⟩ | exact Or.inl ⟨by omega, zF, st.2.2.1, st.2.2.2.1⟩ | exact Or.inr (Or.inr (Or.inl ⟨by omega, by omega, zC, st.2.2.1, st.2.2.2.1⟩)) | exact Or.inr (Or.inr (Or.inr (Or.inl ⟨by omega, by omega, zW, st.2.2.2.1⟩))) | exact Or.inr (Or.inr (Or.inr (Or.inr (Or.inl ⟨by omega, by omega, zJ, fun _ => st.2.2.1, st.2.2.2.1⟩)))) | exact Or.inr (Or.inr (Or.inr (Or.inr (Or.inr (Or.inl ⟨by omega, by omega, zS, st.2.2.1, st.2.2.2.1⟩))))) | exact ⟨_, _, _, Or.inl ⟨by omega, zF, rfl, rfl⟩⟩ | exact ⟨_, _, _, Or.inr (Or.inr (Or.inl ⟨by omega, by omega, zC, rfl, rfl⟩))⟩ | exact ⟨_, _, _, Or.inr (Or.inr (Or.inr (Or.inl ⟨by omega, by omega, zW, rfl⟩)))⟩ | exact ⟨_, _, _, Or.inr (Or.inr (Or.inr (Or.inr (Or.inl ⟨by omega, by omega, zJ, fun q => absurd q (by omega), rfl⟩))))⟩ | exact ⟨_, _, _, Or.inr (Or.inr (Or.inr (Or.inr (Or.inr (Or.inl ⟨by omega, by omega, zS, rfl, rfl⟩)))))⟩ | exact ⟨0, 0, 0, Or.inr (Or.inl ⟨by omega, by omega, by omega⟩)⟩ | exact ⟨0, 0, 0, Or.inr (Or.inr (Or.inr (Or.inr (Or.inr (Or.inr ⟨by omega, by omega, by omega, by omega, by omega, by omega⟩)))))⟩ | (exfalso; omega) | omega) (by first | exact Lo_h61t81 | exact ⟨st.1, st.2.1, st.2.2.2.2⟩ | exact Or.inl ⟨by omega, zF, st.2.2.1, st.2.2.2.1⟩ | exact Or.inr (Or.inr (Or.inl ⟨by omega, by omega, zC, st.2.2.1, st.2.2.2.1⟩)) | exact Or.inr (Or.inr (Or.inr (Or.inl ⟨by omega, by omega, zW, st.2.2.2.1⟩))) | exact Or.inr (Or.inr (Or.inr (Or.inr (Or.inl ⟨by omega, by omega, zJ, fun _ => st.2.2.1, st.2.2.2.1⟩)))) | exact Or.inr (Or.inr (Or.inr (Or.inr (Or.inr (Or.inl ⟨by omega, by omega, zS, st.2.2.1, st.2.2.2.1⟩))))) | exact ⟨_, _, _, Or.inl ⟨by omega, zF, rfl, rfl⟩⟩ | exact ⟨_, _, _, Or.inr (Or.inr (Or.inl ⟨by omega, by omega, zC, rfl, rfl⟩))⟩ | exact ⟨_, _, _, Or.inr (Or.inr (Or.inr (Or.inl ⟨by omega, by omega, zW, rfl⟩)))⟩ | exact ⟨_, _, _, Or.inr (Or.inr (Or.inr (Or.inr (Or.inl ⟨by omega, by omega, zJ, fun q => absurd q (by omega), rfl⟩))))⟩ | exact ⟨_, _, _, Or.inr (Or.inr (Or.inr (Or.inr (Or.inr (Or.inl ⟨by omega, by omega, zS, rfl, rfl⟩)))))⟩ | exact ⟨0, 0, 0, Or.inr (Or.inl ⟨by omega, by omega, by omega⟩)⟩ | exact ⟨0, 0, 0, Or.inr (Or.inr (Or.inr (Or.inr (Or.inr (Or.inr ⟨by omega, by omega, by omega, by omega, by omega, by omega⟩)))))⟩ | (exfalso; omega) | omega) Ln_h61t66 Sp_h61t67 Al_h61t68 Cu_h61t69)
              ·
                have gh70 : my_fr [(4, 4), (4, 5), (4, 6), (4, 7), (4, 8), (4, 9), (5, 5), (5, 6), (5, 7), (5, 8), (5, 9), (32, -1), (33, -1), (34, -1), (35, -1), (36, -1), (37, -1), (38, -1), (39, -1)] h h70 := my_fr.tr gh47 (frh70.mo rfl)
                show wp l rho (d + 7) 49 140 [(2, 82), (0, 0), (0, 0), (0, 0), (0, 0), (0, 1)] [] h70 Q
                have tE83 : cs h47 = cs h := cs_eq (fun j => my_fr.at gh47 is_92 rfl) (my_fr.at gh47 is_82 rfl)
                rw [tE83] at xp72
                have ps84 : h47 82 7 = (sN (cs h) (h 82 7)) := xc55
                rw [ps84] at xp72
                have q2 : h47 82 2 = h 82 2 := my_fr.at frh47 is_82 rfl
                have q11 : h47 (h 82 2) 1 = h (h 82 2) 1 := my_fr.at frh47 n_Ln.2.2.2.1 rfl
                have q13 : h47 (h 82 2) 3 = h (h 82 2) 3 := my_fr.at frh47 n_Ln.2.2.2.1 rfl
                have q14 : h47 (h 82 2) 4 = h (h 82 2) 4 := my_fr.at frh47 n_Ln.2.2.2.1 rfl
                have q19 : h47 (h 82 2) 9 = h (h 82 2) 9 := my_fr.at frh47 n_Ln.2.2.2.1 rfl
                have qc : h47 2 = h 2 := funext (fun j => my_fr.at frh47 is_2 rfl)
                have zS := xp72
                simp only [q2, q11, q13, q14, q19, qc] at zS
                have st := xp73
                unfold Std at st
                simp only [q2, q11, q13, q14, q19, qc] at st
                have Lo_h70t85 : Lo h h70 := Lo_tr Lo_h47 xp74
                have psR : h70 82 7 = h70 82 7 := (rfl : h70 82 7 = h70 82 7)
                have npsR : cs h70 = cs h := cs_eq (fun j => my_fr.at gh70 is_92 rfl) (my_fr.at gh70 is_82 rfl)
                have c86 := w71
                exact w_vret gz_49_140 gm_49 (k1 h70 (gh70) (by omega) (by first | exact Lo_h70t85 | exact ⟨st.1, st.2.1, st.2.2.2.2⟩ | exact Or.inl ⟨by omega, zF, st.2.2.1, st.2.2.2.1⟩ | exact Or.inr (Or.inr (Or.inl ⟨by omega, by omega, zC, st.2.2.1, st.2.2.2.1⟩)) | exact Or.inr (Or.inr (Or.inr (Or.inl ⟨by omega, by omega, zW, st.2.2.2.1⟩))) | exact Or.inr (Or.inr (Or.inr (Or.inr (Or.inl ⟨by omega, by omega, zJ, fun _ => st.2.2.1, st.2.2.2.1⟩)))) | exact Or.inr (Or.inr (Or.inr (Or.inr (Or.inr (Or.inl ⟨by omega, by omega, zS, st.2.2.1, st.2.2.2.1⟩))))) | exact ⟨_, _, _, Or.inl ⟨by omega, zF, rfl, rfl⟩⟩ | exact ⟨_, _, _, Or.inr (Or.inr (Or.inl ⟨by omega, by omega, zC, rfl, rfl⟩))⟩ | exact ⟨_, _, _, Or.inr (Or.inr (Or.inr (Or.inl ⟨by omega, by omega, zW, rfl⟩)))⟩ | exact ⟨_, _, _, Or.inr (Or.inr (Or.inr (Or.inr (Or.inl ⟨by omega, by omega, zJ, fun q => absurd q (by omega), rfl⟩))))⟩ | exact ⟨_, _, _, Or.inr (Or.inr (Or.inr (Or.inr (Or.inr (Or.inl ⟨by omega, by omega, zS, rfl, rfl⟩)))))⟩ | exact ⟨0, 0, 0, Or.inr (Or.inl ⟨by omega, by omega, by omega⟩)⟩ | exact ⟨0, 0, 0, Or.inr (Or.inr (Or.inr (Or.inr (Or.inr (Or.inr ⟨by omega, by omega, by omega, by omega, by omega, by omega⟩)))))⟩ | (exfalso; omega) | omega) (by first | exact Lo_h70t85 | exact ⟨st.1, st.2.1, st.2.2.2.2⟩ | exact Or.inl ⟨by omega, zF, st.2.2.1, st.2.2.2.1⟩ | exact Or.inr (Or.inr (Or.inl ⟨by omega, by omega, zC, st.2.2.1, st.2.2.2.1⟩)) | exact Or.inr (Or.inr (Or.inr (Or.inl ⟨by omega, by omega, zW, st.2.2.2.1⟩))) | exact Or.inr (Or.inr (Or.inr (Or.inr (Or.inl ⟨by omega, by omega, zJ, fun _ => st.2.2.1, st.2.2.2.1⟩)))) | exact Or.inr (Or.inr (Or.inr (Or.inr (Or.inr (Or.inl ⟨by omega, by omega, zS, st.2.2.1, st.2.2.2.1⟩))))) | exact ⟨_, _, _, Or.inl ⟨by omega, zF, rfl, rfl⟩⟩ | exact ⟨_, _, _, Or.inr (Or.inr (Or.inl ⟨by omega, by omega, zC, rfl, rfl⟩))⟩ | exact ⟨_, _, _, Or.inr (Or.inr (Or.inr (Or.inl ⟨by omega, by omega, zW, rfl⟩)))⟩ | exact ⟨_, _, _, Or.inr (Or.inr (Or.inr (Or.inr (Or.inl ⟨by omega, by omega, zJ, fun q => absurd q (by omega), rfl⟩))))⟩ | exact ⟨_, _, _, Or.inr (Or.inr (Or.inr (Or.inr (Or.inr (Or.inl ⟨by omega, by omega, zS, rfl, rfl⟩)))))⟩ | exact ⟨0, 0, 0, Or.inr (Or.inl ⟨by omega, by omega, by omega⟩)⟩ | exact ⟨0, 0, 0, Or.inr (Or.inr (Or.inr (Or.inr (Or.inr (Or.inr ⟨by omega, by omega, by omega, by omega, by omega, by omega⟩)))))⟩ | (exfalso; omega) | omega) (by first | exact Lo_h70t85 | exact ⟨st.1, st.2.1, st.2.2.2.2⟩ | exact Or.inl ⟨by omega, zF, st.2.2.1, st.2.2.2.1⟩ | exact Or.inr (Or.inr (Or.inl ⟨by omega, by omega, zC, st.2.2.1, st.2.2.2.1⟩)) | exact Or.inr (Or.inr (Or.inr (Or.inl ⟨by omega, by omega, zW, st.2.2.2.1⟩))) | exact Or.inr (Or.inr (Or.inr (Or.inr (Or.inl ⟨by omega, by omega, zJ, fun _ => st.2.2.1, st.2.2.2.1⟩)))) | exact Or.inr (Or.inr (Or.inr (Or.inr (Or.inr (Or.inl ⟨by omega, by omega, zS, st.2.2.1, st.2.2.2.1⟩))))) | exact ⟨_, _, _, Or.inl ⟨by omega, zF, rfl, rfl⟩⟩ | exact ⟨_, _, _, Or.inr (Or.inr (Or.inl ⟨by omega, by omega, zC, rfl, rfl⟩))⟩ | exact ⟨_, _, _, Or.inr (Or.inr (Or.inr (Or.inl ⟨by omega, by omega, zW, rfl⟩)))⟩ | exact ⟨_, _, _, Or.inr (Or.inr (Or.inr (Or.inr (Or.inl ⟨by omega, by omega, zJ, fun q => absurd q (by omega), rfl⟩))))⟩ | exact ⟨_, _, _, Or.inr (Or.inr (Or.inr (Or.inr (Or.inr (Or.inl ⟨by omega, by omega, zS, rfl, rfl⟩)))))⟩ | exact ⟨0, 0, 0, Or.inr (Or.inl ⟨by omega, by omega, by omega⟩)⟩ | exact ⟨0, 0, 0, Or.inr (Or.inr (Or.inr (Or.inr (Or.inr (Or.inr ⟨by omega, by omega, by omega, by omega, by omega, by omega⟩)))))⟩ | (exfalso; omega) | omega) Ln_h70t75 Sp_h70t76 Al_h70t77 Cu_h70t78)
            ·
              refine w_aload_n gz_49_81 rfl ?_
              refine w_iconst gz_49_82 (by decide) ?_
              refine w_inv (k := 0) (as := [(0, 5)]) (r := []) (x := 82) (ls0 := [(2, 82), (0, 5)]) gz_49_83 gm_42 rfl is_82 rd_5 rfl rfl rfl rfl rfl ?_
              refine w_aload_n gz_42_0 rfl ?_
              refine v_getI (j := 9) gz_42_1 rfl is_82 rd_5 rfl (fun v87 ev87 pv87 qv87 => ?_)
              have zv87 := ev87.trans cf
              refine w_ifne (t := 20) gz_42_4 rfl (fun u88 => by exfalso; omega) (fun u88 => ?_)
              refine w_aload_n gz_42_7 rfl ?_
              refine w_iload_n gz_42_8 rfl ?_
              refine w_bipush gz_42_9 (by decide) ?_
              refine w_aload_n gz_42_11 rfl ?_
              refine v_getI (j := 7) gz_42_12 rfl is_82 rd_5 rfl (fun v89 ev89 pv89 qv89 => ?_)
              refine w_imul gz_42_15 ⟨by omega, by omega⟩ ?_
              refine w_iadd gz_42_16 ⟨by omega, by omega⟩ ?_
              refine v_putI (j := 9) gz_42_17 rfl is_82 rd_5 rfl (by omega) (by omega) rfl (fun h90 fh90 => ?_)
              have gh90 : my_fr [(4, 4), (4, 5), (4, 6), (4, 7), (4, 8), (4, 9), (5, 5), (5, 6), (5, 7), (5, 8), (5, 9), (32, -1), (33, -1), (34, -1), (35, -1), (36, -1), (37, -1), (38, -1), (39, -1)] h h90 := my_fr.up my_fr.rf is_82 fh90 rfl
              have Ln_h90 : Ln h90 := Ln_ag (my_ag.up fh90 is_82 rfl) n_Ln
              have Sp_h90 : Sp h90 wv := Sp_ag (my_ag.up fh90 is_82 rfl) hwv n_Ln n_Sp
              have Al_h90 : Al h90 := Al_ag (my_ag.up fh90 is_82 rfl) n_Al
              have Cu_h90 : Cu h90 := Cu_ag (my_ag.up fh90 is_82 rfl) n_Cu
              have Lo_h90 : Lo h h90 := Lo_ag (my_ag.up fh90 is_82 rfl) n_Ln (Lo_rf)
              refine w_vret gz_42_20 gm_42 ?_
              show wp l rho (d + 7) 49 86 [(2, 82), (0, 0), (0, 0), (0, 0), (0, 0), (0, 1)] [] h90 Q
              have psR : h90 82 7 = h 82 7 := ((my_up_fld fh90 (by decide)).trans (rfl : h 82 7 = h 82 7))
              have npsR : cs h90 = cs h := cs_eq (fun j => my_fr.at gh90 is_92 rfl) (my_fr.at gh90 is_82 rfl)
              have c91 := (my_up_self fh90)
              exact w_vret gz_49_86 gm_49 (k0 h90 (gh90) (by omega) (by omega) (by first | exact Lo_h90 | exact ⟨st.1, st.2.1, st.2.2.2.2⟩ | exact Or.inl ⟨by omega, zF, st.2.2.1, st.2.2.2.1⟩ | exact Or.inr (Or.inr (Or.inl ⟨by omega, by omega, zC, st.2.2.1, st.2.2.2.1⟩)) | exact Or.inr (Or.inr (Or.inr (Or.inl ⟨by omega, by omega, zW, st.2.2.2.1⟩))) | exact Or.inr (Or.inr (Or.inr (Or.inr (Or.inl ⟨by omega, by omega, zJ, fun _ => st.2.2.1, st.2.2.2.1⟩)))) | exact Or.inr (Or.inr (Or.inr (Or.inr (Or.inr (Or.inl ⟨by omega, by omega, zS, st.2.2.1, st.2.2.2.1⟩))))) | exact ⟨_, _, _, Or.inl ⟨by omega, zF, rfl, rfl⟩⟩ | exact ⟨_, _, _, Or.inr (Or.inr (Or.inl ⟨by omega, by omega, zC, rfl, rfl⟩))⟩ | exact ⟨_, _, _, Or.inr (Or.inr (Or.inr (Or.inl ⟨by omega, by omega, zW, rfl⟩)))⟩ | exact ⟨_, _, _, Or.inr (Or.inr (Or.inr (Or.inr (Or.inl ⟨by omega, by omega, zJ, fun q => absurd q (by omega), rfl⟩))))⟩ | exact ⟨_, _, _, Or.inr (Or.inr (Or.inr (Or.inr (Or.inr (Or.inl ⟨by omega, by omega, zS, rfl, rfl⟩)))))⟩ | exact ⟨0, 0, 0, Or.inr (Or.inl ⟨by omega, by omega, by omega⟩)⟩ | exact ⟨0, 0, 0, Or.inr (Or.inr (Or.inr (Or.inr (Or.inr (Or.inr ⟨by omega, by omega, by omega, by omega, by omega, by omega⟩)))))⟩ | (exfalso; omega) | omega) (by first | exact Lo_h90 | exact ⟨st.1, st.2.1, st.2.2.2.2⟩ | exact Or.inl ⟨by omega, zF, st.2.2.1, st.2.2.2.1⟩ | exact Or.inr (Or.inr (Or.inl ⟨by omega, by omega, zC, st.2.2.1, st.2.2.2.1⟩)) | exact Or.inr (Or.inr (Or.inr (Or.inl ⟨by omega, by omega, zW, st.2.2.2.1⟩))) | exact Or.inr (Or.inr (Or.inr (Or.inr (Or.inl ⟨by omega, by omega, zJ, fun _ => st.2.2.1, st.2.2.2.1⟩)))) | exact Or.inr (Or.inr (Or.inr (Or.inr (Or.inr (Or.inl ⟨by omega, by omega, zS, st.2.2.1, st.2.2.2.1⟩))))) | exact ⟨_, _, _, Or.inl ⟨by omega, zF, rfl, rfl⟩⟩ | exact ⟨_, _, _, Or.inr (Or.inr (Or.inl ⟨by omega, by omega, zC, rfl, rfl⟩))⟩ | exact ⟨_, _, _, Or.inr (Or.inr (Or.inr (Or.inl ⟨by omega, by omega, zW, rfl⟩)))⟩ | exact ⟨_, _, _, Or.inr (Or.inr (Or.inr (Or.inr (Or.inl ⟨by omega, by omega, zJ, fun q => absurd q (by omega), rfl⟩))))⟩ | exact ⟨_, _, _, Or.inr (Or.inr (Or.inr (Or.inr (Or.inr (Or.inl ⟨by omega, by omega, zS, rfl, rfl⟩)))))⟩ | exact ⟨0, 0, 0, Or.inr (Or.inl ⟨by omega, by omega, by omega⟩)⟩ | exact ⟨0, 0, 0, Or.inr (Or.inr (Or.inr (Or.inr (Or.inr (Or.inr ⟨by omega, by omega, by omega, by omega, by omega, by omega⟩)))))⟩ | (exfalso; omega) | omega) Ln_h90 Sp_h90 Al_h90 Cu_h90)
        ·
          show wp l rho (d + 7) 49 27 [(2, 82), (0, 0), (0, 0), (0, 0), (9, 0), (9, 0)] [(0, 1)] h Q
          rw [show wc ((7 : Nat) : Int) = 527412 from by decide] at xp21
          refine w_istore (ls' := [(2, 82), (0, 0), (0, 0), (0, 0), (0, 1), (9, 0)]) gz_49_27 gm_49 rfl rfl rfl ?_
          refine w_aload_n gz_49_29 rfl ?_
          refine w_ldcS gz_49_30 (by decide) ?_
          refine w_inv (k := 1) (as := [(3, ((8 : Nat) : Int))]) (r := []) (x := 82) (ls0 := [(2, 82), (3, ((8 : Nat) : Int)), (9, 0)]) gz_49_32 gm_41 rfl is_82 rd_5 rfl rfl rfl rfl rfl (c_Reader_isWord9_f0 (d := (d + 2)) (x1 := ((8 : Nat) : Int)) (by decide) (cf.trans (by omega)) n_Cu (fun w92 xp93 => ?_) (fun w94 w95 xp96 => ?_))
          ·
            show wp l rho (d + 7) 49 35 [(2, 82), (0, 0), (0, 0), (0, 0), (0, 1), (9, 0)] [(0, 0)] h Q
            rw [show wc ((8 : Nat) : Int) = 26801 from by decide] at xp93
            refine w_istore (ls' := [(2, 82), (0, 0), (0, 0), (0, 0), (0, 1), (0, 0)]) gz_49_35 gm_49 rfl rfl rfl ?_
            refine w_iload_n gz_49_37 rfl ?_
            refine w_ifne (t := 65) gz_49_38 rfl (fun u97 => by exfalso; omega) (fun u97 => ?_)
            refine w_iload_n gz_49_41 rfl ?_
            refine w_ifne (t := 65) gz_49_42 rfl (fun u98 => by exfalso; omega) (fun u98 => ?_)
            refine w_iload_n gz_49_45 rfl ?_
            refine w_ifne (t := 65) gz_49_46 rfl (fun u99 => by exfalso; omega) (fun u99 => ?_)
            refine w_iload gz_49_49 rfl ?_
            refine w_ifne (t := 65) gz_49_51 rfl (fun u100 => ?_) (fun u100 => by exfalso; omega)
            refine w_iload_n gz_49_65 rfl ?_
            refine w_ifne (t := 87) gz_49_66 rfl (fun u101 => by exfalso; omega) (fun u101 => ?_)
            refine w_aload_n gz_49_69 rfl ?_
            refine v_getR (j := 2) gz_49_70 rfl is_82 rd_5 rfl (fun v102 ev102 tv102 => ?_)
            have sE73 : v102 = h 82 2 := by first | assumption | omega
            refine v_getI (j := 9) gz_49_73 rfl tv102 rd_4 rfl (fun v103 ev103 pv103 qv103 => ?_)
            have c76 : v103 = h (h 82 2) 9 := by rw [← sE73]; omega
            refine w_bipush gz_49_76 (by decide) ?_
            refine w_iclt (t := 87) gz_49_78 rfl (fun u104 => ?_) (fun u104 => ?_)
            ·
              have St5_ht105 : St5 h := ⟨by subst_vars; omega, by subst_vars; omega⟩
              refine w_aload_n gz_49_87 rfl ?_
              refine w_inv (k := 2) (as := []) (r := []) (x := 82) (ls0 := [(2, 82), (9, 0), (9, 0)]) gz_49_88 gm_37 rfl is_82 rd_5 rfl rfl rfl rfl rfl (c_Reader_nextToken9_f0 (d := (d + 5))  (cf.trans (by omega)) n_Al (fun h106 frh106 w107 w108 w109 xp110 xp111 Al_h106t112 Cu_h106t113 => ?_))
              have gh106 : my_fr [(4, 4), (4, 5), (4, 6), (4, 7), (4, 8), (4, 9), (5, 5), (5, 6), (5, 7), (5, 8), (5, 9), (32, -1), (33, -1), (34, -1), (35, -1), (36, -1), (37, -1), (38, -1), (39, -1)] h h106 := my_fr.tr my_fr.rf (frh106.mo rfl)
              have Ln_h106 : Ln h106 := Ln_ag (my_ag.fr frh106 rfl) n_Ln
              have Sp_h106 : Sp h106 wv := Sp_ag (my_ag.fr frh106 rfl) hwv n_Ln n_Sp
              have Lo_h106 : Lo h h106 := Lo_ag (my_ag.fr frh106 rfl) n_Ln (Lo_rf)
              have St5_h106 : St5 h106 := St5_ag (my_ag.fr frh106 rfl) n_Ln St5_ht105
              show wp l rho (d + 7) 49 91 [(2, 82), (0, 0), (0, 0), (0, 0), (0, 1), (0, 0)] [] h106 Q
              have xc114 := xp110 n_Cu
              have ck115 := Cu_s Cu_h106t113
              rw [show cs h106 = cs h from cs_eq (fun j => my_fr.at gh106 is_92 rfl) (my_fr.at gh106 is_82 rfl)] at ck115
              rw [show h106 82 7 = (sN (cs h) (h 82 7)) from xc114] at ck115
              refine w_iload_n gz_49_91 rfl ?_
              refine w_ifeq (t := 102) gz_49_92 rfl (fun u116 => ?_) (fun u116 => by exfalso; omega)
              refine w_iload_n gz_49_102 rfl ?_
              refine w_ifeq (t := 113) gz_49_103 rfl (fun u117 => ?_) (fun u117 => by exfalso; omega)
              refine w_iload_n gz_49_113 rfl ?_
              refine w_ifeq (t := 124) gz_49_114 rfl (fun u118 => ?_) (fun u118 => by exfalso; omega)
              refine w_iload gz_49_124 rfl ?_
              refine w_ifeq (t := 136) gz_49_126 rfl (fun u119 => by exfalso; omega) (fun u119 => ?_)
              refine w_aload_n gz_49_129 rfl ?_
              refine w_inv (k := 3) (as := []) (r := []) (x := 82) (ls0 := [(2, 82), (9, 0), (9, 0), (9, 0)]) gz_49_130 gm_60 rfl is_82 rd_5 rfl rfl rfl rfl rfl (c_Reader_readJoin9_f0 (d := d)  (wv := wv) (((my_fr.at frh106 is_82 rfl).trans cf).trans (by omega)) (by first | assumption | omega) (by first | assumption | omega) Ln_h106 Sp_h106 St5_h106 Al_h106t112 Cu_h106t113 (fun h120 frh120 w121 w122 xp123 xp124 Ln_h120t125 Sp_h120t126 Al_h120t127 Cu_h120t128 => ?_) (fun h129 frh129 w130 xp131 xp132 xp133 Ln_h129t134 Sp_h129t135 Al_h129t136 Cu_h129t137 => ?_))
              ·
                have gh120 : my_fr [(4, 4), (4, 5), (4, 6), (4, 7), (4, 8), (4, 9), (5, 5), (5, 6), (5, 7), (5, 8), (5, 9), (32, -1), (33, -1), (34, -1), (35, -1), (36, -1), (37, -1), (38, -1), (39, -1)] h h120 := my_fr.tr gh106 (frh120.mo rfl)
                show wp l rho (d + 7) 49 133 [(2, 82), (0, 0), (0, 0), (0, 0), (0, 1), (0, 0)] [] h120 Q
                have tE138 : cs h106 = cs h := cs_eq (fun j => my_fr.at gh106 is_92 rfl) (my_fr.at gh106 is_82 rfl)
                rw [tE138] at xp123
                have ps139 : h106 82 7 = (sN (cs h) (h 82 7)) := xc114
                rw [ps139] at xp123
                have q2 : h106 82 2 = h 82 2 := my_fr.at frh106 is_82 rfl
                have q11 : h106 (h 82 2) 1 = h (h 82 2) 1 := my_fr.at frh106 n_Ln.2.2.2.1 rfl
                have q13 : h106 (h 82 2) 3 = h (h 82 2) 3 := my_fr.at frh106 n_Ln.2.2.2.1 rfl
                have q14 : h106 (h 82 2) 4 = h (h 82 2) 4 := my_fr.at frh106 n_Ln.2.2.2.1 rfl
                have q19 : h106 (h 82 2) 9 = h (h 82 2) 9 := my_fr.at frh106 n_Ln.2.2.2.1 rfl
                have qc : h106 2 = h 2 := funext (fun j => my_fr.at frh106 is_2 rfl)
                have zJ := xp123
                simp only [q2, q11, q13, q14, q19, qc] at zJ
                have Lo_h120t140 : Lo h h120 := Lo_tr Lo_h106 xp124
                refine w_goto (t := 140) gz_49_133 rfl ?_
                have psR : h120 82 7 = h120 82 7 := (rfl : h120 82 7 = h120 82 7)
                have npsR : cs h120 = cs h := cs_eq (fun j => my_fr.at gh120 is_92 rfl) (my_fr.at gh120 is_82 rfl)
                have c141 := (rfl : h120 82 9 = h120 82 9)
                exact w_vret gz_49_140 gm_49 (k0 h120 (gh120) (by omega) (by omega) (by first | exact Lo_h120t140 | exact ⟨st.1, st.2.1, st.2.2.2.2⟩ | exact Or.inl ⟨by omega, zF, st.2.2.1, st.2.2.2.1⟩ | exact Or.inr (Or.inr (Or.inl ⟨by omega, by omega, zC, st.2.2.1, st.2.2.2.1⟩)) | exact Or.inr (Or.inr (Or.inr (Or.inl ⟨by omega, by omega, zW, st.2.2.2.1⟩))) | exact Or.inr (Or.inr (Or.inr (Or.inr (Or.inl ⟨by omega, by omega, zJ, fun _ => st.2.2.1, st.2.2.2.1⟩)))) | exact Or.inr (Or.inr (Or.inr (Or.inr (Or.inr (Or.inl ⟨by omega, by omega, zS, st.2.2.1, st.2.2.2.1⟩))))) | exact ⟨_, _, _, Or.inl ⟨by omega, zF, rfl, rfl⟩⟩ | exact ⟨_, _, _, Or.inr (Or.inr (Or.inl ⟨by omega, by omega, zC, rfl, rfl⟩))⟩ | exact ⟨_, _, _, Or.inr (Or.inr (Or.inr (Or.inl ⟨by omega, by omega, zW, rfl⟩)))⟩ | exact ⟨_, _, _, Or.inr (Or.inr (Or.inr (Or.inr (Or.inl ⟨by omega, by omega, zJ, fun q => absurd q (by omega), rfl⟩))))⟩ | exact ⟨_, _, _, Or.inr (Or.inr (Or.inr (Or.inr (Or.inr (Or.inl ⟨by omega, by omega, zS, rfl, rfl⟩)))))⟩ | exact ⟨0, 0, 0, Or.inr (Or.inl ⟨by omega, by omega, by omega⟩)⟩ | exact ⟨0, 0, 0, Or.inr (Or.inr (Or.inr (Or.inr (Or.inr (Or.inr ⟨by omega, by omega, by omega, by omega, by omega, by omega⟩)))))⟩ | (exfalso; omega) | omega) (by first | exact Lo_h120t140 | exact ⟨st.1, st.2.1, st.2.2.2.2⟩ | exact Or.inl ⟨by omega, zF, st.2.2.1, st.2.2.2.1⟩ | exact Or.inr (Or.inr (Or.inl ⟨by omega, by omega, zC, st.2.2.1, st.2.2.2.1⟩)) | exact Or.inr (Or.inr (Or.inr (Or.inl ⟨by omega, by omega, zW, st.2.2.2.1⟩))) | exact Or.inr (Or.inr (Or.inr (Or.inr (Or.inl ⟨by omega, by omega, zJ, fun _ => st.2.2.1, st.2.2.2.1⟩)))) | exact Or.inr (Or.inr (Or.inr (Or.inr (Or.inr (Or.inl ⟨by omega, by omega, zS, st.2.2.1, st.2.2.2.1⟩))))) | exact ⟨_, _, _, Or.inl ⟨by omega, zF, rfl, rfl⟩⟩ | exact ⟨_, _, _, Or.inr (Or.inr (Or.inl ⟨by omega, by omega, zC, rfl, rfl⟩))⟩ | exact ⟨_, _, _, Or.inr (Or.inr (Or.inr (Or.inl ⟨by omega, by omega, zW, rfl⟩)))⟩ | exact ⟨_, _, _, Or.inr (Or.inr (Or.inr (Or.inr (Or.inl ⟨by omega, by omega, zJ, fun q => absurd q (by omega), rfl⟩))))⟩ | exact ⟨_, _, _, Or.inr (Or.inr (Or.inr (Or.inr (Or.inr (Or.inl ⟨by omega, by omega, zS, rfl, rfl⟩)))))⟩ | exact ⟨0, 0, 0, Or.inr (Or.inl ⟨by omega, by omega, by omega⟩)⟩ | exact ⟨0, 0, 0, Or.inr (Or.inr (Or.inr (Or.inr (Or.inr (Or.inr ⟨by omega, by omega, by omega, by omega, by omega, by omega⟩)))))⟩ | (exfalso; omega) | omega) Ln_h120t125 Sp_h120t126 Al_h120t127 Cu_h120t128)
              ·
                have gh129 : my_fr [(4, 4), (4, 5), (4, 6), (4, 7), (4, 8), (4, 9), (5, 5), (5, 6), (5, 7), (5, 8), (5, 9), (32, -1), (33, -1), (34, -1), (35, -1), (36, -1), (37, -1), (38, -1), (39, -1)] h h129 := my_fr.tr gh106 (frh129.mo rfl)
                show wp l rho (d + 7) 49 133 [(2, 82), (0, 0), (0, 0), (0, 0), (0, 1), (0, 0)] [] h129 Q
                have tE142 : cs h106 = cs h := cs_eq (fun j => my_fr.at gh106 is_92 rfl) (my_fr.at gh106 is_82 rfl)
                rw [tE142] at xp131
                have ps143 : h106 82 7 = (sN (cs h) (h 82 7)) := xc114
                rw [ps143] at xp131
                rw [tE142] at xp132
                rw [ps143] at xp132
                have q2 : h106 82 2 = h 82 2 := my_fr.at frh106 is_82 rfl
                have q11 : h106 (h 82 2) 1 = h (h 82 2) 1 := my_fr.at frh106 n_Ln.2.2.2.1 rfl
                have q13 : h106 (h 82 2) 3 = h (h 82 2) 3 := my_fr.at frh106 n_Ln.2.2.2.1 rfl
                have q14 : h106 (h 82 2) 4 = h (h 82 2) 4 := my_fr.at frh106 n_Ln.2.2.2.1 rfl
                have q19 : h106 (h 82 2) 9 = h (h 82 2) 9 := my_fr.at frh106 n_Ln.2.2.2.1 rfl
                have qc : h106 2 = h 2 := funext (fun j => my_fr.at frh106 is_2 rfl)
                have zJ := xp131
                simp only [q2, q11, q13, q14, q19, qc] at zJ
                have st := xp132
                unfold Std at st
                simp only [q2, q11, q13, q14, q19, qc] at st
                have Lo_h129t144 : Lo h h129 := Lo_tr Lo_h106 xp133
                refine w_goto (t := 140) gz_49_133 rfl ?_
                have psR : h129 82 7 = h129 82 7 := (rfl : h129 82 7 = h129 82 7)
                have npsR : cs h129 = cs h := cs_eq (fun j => my_fr.at gh129 is_92 rfl) (my_fr.at gh129 is_82 rfl)
                have c145 := w130
                exact w_vret gz_49_140 gm_49 (k1 h129 (gh129) (by omega) (by first | exact Lo_h129t144 | exact ⟨st.1, st.2.1, st.2.2.2.2⟩ | exact Or.inl ⟨by omega, zF, st.2.2.1, st.2.2.2.1⟩ | exact Or.inr (Or.inr (Or.inl ⟨by omega, by omega, zC, st.2.2.1, st.2.2.2.1⟩)) | exact Or.inr (Or.inr (Or.inr (Or.inl ⟨by omega, by omega, zW, st.2.2.2.1⟩))) | exact Or.inr (Or.inr (Or.inr (Or.inr (Or.inl ⟨by omega, by omega, zJ, fun _ => st.2.2.1, st.2.2.2.1⟩)))) | exact Or.inr (Or.inr (Or.inr (Or.inr (Or.inr (Or.inl ⟨by omega, by omega, zS, st.2.2.1, st.2.2.2.1⟩))))) | exact ⟨_, _, _, Or.inl ⟨by omega, zF, rfl, rfl⟩⟩ | exact ⟨_, _, _, Or.inr (Or.inr (Or.inl ⟨by omega, by omega, zC, rfl, rfl⟩))⟩ | exact ⟨_, _, _, Or.inr (Or.inr (Or.inr (Or.inl ⟨by omega, by omega, zW, rfl⟩)))⟩ | exact ⟨_, _, _, Or.inr (Or.inr (Or.inr (Or.inr (Or.inl ⟨by omega, by omega, zJ, fun q => absurd q (by omega), rfl⟩))))⟩ | exact ⟨_, _, _, Or.inr (Or.inr (Or.inr (Or.inr (Or.inr (Or.inl ⟨by omega, by omega, zS, rfl, rfl⟩)))))⟩ | exact ⟨0, 0, 0, Or.inr (Or.inl ⟨by omega, by omega, by omega⟩)⟩ | exact ⟨0, 0, 0, Or.inr (Or.inr (Or.inr (Or.inr (Or.inr (Or.inr ⟨by omega, by omega, by omega, by omega, by omega, by omega⟩)))))⟩ | (exfalso; omega) | omega) (by first | exact Lo_h129t144 | exact ⟨st.1, st.2.1, st.2.2.2.2⟩ | exact Or.inl ⟨by omega, zF, st.2.2.1, st.2.2.2.1⟩ | exact Or.inr (Or.inr (Or.inl ⟨by omega, by omega, zC, st.2.2.1, st.2.2.2.1⟩)) | exact Or.inr (Or.inr (Or.inr (Or.inl ⟨by omega, by omega, zW, st.2.2.2.1⟩))) | exact Or.inr (Or.inr (Or.inr (Or.inr (Or.inl ⟨by omega, by omega, zJ, fun _ => st.2.2.1, st.2.2.2.1⟩)))) | exact Or.inr (Or.inr (Or.inr (Or.inr (Or.inr (Or.inl ⟨by omega, by omega, zS, st.2.2.1, st.2.2.2.1⟩))))) | exact ⟨_, _, _, Or.inl ⟨by omega, zF, rfl, rfl⟩⟩ | exact ⟨_, _, _, Or.inr (Or.inr (Or.inl ⟨by omega, by omega, zC, rfl, rfl⟩))⟩ | exact ⟨_, _, _, Or.inr (Or.inr (Or.inr (Or.inl ⟨by omega, by omega, zW, rfl⟩)))⟩ | exact ⟨_, _, _, Or.inr (Or.inr (Or.inr (Or.inr (Or.inl ⟨by omega, by omega, zJ, fun q => absurd q (by omega), rfl⟩))))⟩ | exact ⟨_, _, _, Or.inr (Or.inr (Or.inr (Or.inr (Or.inr (Or.inl ⟨by omega, by omega, zS, rfl, rfl⟩)))))⟩ | exact ⟨0, 0, 0, Or.inr (Or.inl ⟨by omega, by omega, by omega⟩)⟩ | exact ⟨0, 0, 0, Or.inr (Or.inr (Or.inr (Or.inr (Or.inr (Or.inr ⟨by omega, by omega, by omega, by omega, by omega, by omega⟩)))))⟩ | (exfalso; omega) | omega) (by first | exact Lo_h129t144 | exact ⟨st.1, st.2.1, st.2.2.2.2⟩ | exact Or.inl ⟨by omega, zF, st.2.2.1, st.2.2.2.1⟩ | exact Or.inr (Or.inr (Or.inl ⟨by omega, by omega, zC, st.2.2.1, st.2.2.2.1⟩)) | exact Or.inr (Or.inr (Or.inr (Or.inl ⟨by omega, by omega, zW, st.2.2.2.1⟩))) | exact Or.inr (Or.inr (Or.inr (Or.inr (Or.inl ⟨by omega, by omega, zJ, fun _ => st.2.2.1, st.2.2.2.1⟩)))) | exact Or.inr (Or.inr (Or.inr (Or.inr (Or.inr (Or.inl ⟨by omega, by omega, zS, st.2.2.1, st.2.2.2.1⟩))))) | exact ⟨_, _, _, Or.inl ⟨by omega, zF, rfl, rfl⟩⟩ | exact ⟨_, _, _, Or.inr (Or.inr (Or.inl ⟨by omega, by omega, zC, rfl, rfl⟩))⟩ | exact ⟨_, _, _, Or.inr (Or.inr (Or.inr (Or.inl ⟨by omega, by omega, zW, rfl⟩)))⟩ | exact ⟨_, _, _, Or.inr (Or.inr (Or.inr (Or.inr (Or.inl ⟨by omega, by omega, zJ, fun q => absurd q (by omega), rfl⟩))))⟩ | exact ⟨_, _, _, Or.inr (Or.inr (Or.inr (Or.inr (Or.inr (Or.inl ⟨by omega, by omega, zS, rfl, rfl⟩)))))⟩ | exact ⟨0, 0, 0, Or.inr (Or.inl ⟨by omega, by omega, by omega⟩)⟩ | exact ⟨0, 0, 0, Or.inr (Or.inr (Or.inr (Or.inr (Or.inr (Or.inr ⟨by omega, by omega, by omega, by omega, by omega, by omega⟩)))))⟩ | (exfalso; omega) | omega) Ln_h129t134 Sp_h129t135 Al_h129t136 Cu_h129t137)
            ·
              refine w_aload_n gz_49_81 rfl ?_
              refine w_iconst gz_49_82 (by decide) ?_
              refine w_inv (k := 0) (as := [(0, 5)]) (r := []) (x := 82) (ls0 := [(2, 82), (0, 5)]) gz_49_83 gm_42 rfl is_82 rd_5 rfl rfl rfl rfl rfl ?_
              refine w_aload_n gz_42_0 rfl ?_
              refine v_getI (j := 9) gz_42_1 rfl is_82 rd_5 rfl (fun v146 ev146 pv146 qv146 => ?_)
              have zv146 := ev146.trans cf
              refine w_ifne (t := 20) gz_42_4 rfl (fun u147 => by exfalso; omega) (fun u147 => ?_)
              refine w_aload_n gz_42_7 rfl ?_
              refine w_iload_n gz_42_8 rfl ?_
              refine w_bipush gz_42_9 (by decide) ?_
              refine w_aload_n gz_42_11 rfl ?_
              refine v_getI (j := 7) gz_42_12 rfl is_82 rd_5 rfl (fun v148 ev148 pv148 qv148 => ?_)
              refine w_imul gz_42_15 ⟨by omega, by omega⟩ ?_
              refine w_iadd gz_42_16 ⟨by omega, by omega⟩ ?_
              refine v_putI (j := 9) gz_42_17 rfl is_82 rd_5 rfl (by omega) (by omega) rfl (fun h149 fh149 => ?_)
              have gh149 : my_fr [(4, 4), (4, 5), (4, 6), (4, 7), (4, 8), (4, 9), (5, 5), (5, 6), (5, 7), (5, 8), (5, 9), (32, -1), (33, -1), (34, -1), (35, -1), (36, -1), (37, -1), (38, -1), (39, -1)] h h149 := my_fr.up my_fr.rf is_82 fh149 rfl
              have Ln_h149 : Ln h149 := Ln_ag (my_ag.up fh149 is_82 rfl) n_Ln
              have Sp_h149 : Sp h149 wv := Sp_ag (my_ag.up fh149 is_82 rfl) hwv n_Ln n_Sp
              have Al_h149 : Al h149 := Al_ag (my_ag.up fh149 is_82 rfl) n_Al
              have Cu_h149 : Cu h149 := Cu_ag (my_ag.up fh149 is_82 rfl) n_Cu
              have Lo_h149 : Lo h h149 := Lo_ag (my_ag.up fh149 is_82 rfl) n_Ln (Lo_rf)
              refine w_vret gz_42_20 gm_42 ?_
              show wp l rho (d + 7) 49 86 [(2, 82), (0, 0), (0, 0), (0, 0), (0, 1), (0, 0)] [] h149 Q
              have psR : h149 82 7 = h 82 7 := ((my_up_fld fh149 (by decide)).trans (rfl : h 82 7 = h 82 7))
              have npsR : cs h149 = cs h := cs_eq (fun j => my_fr.at gh149 is_92 rfl) (my_fr.at gh149 is_82 rfl)
              have c150 := (my_up_self fh149)
              exact w_vret gz_49_86 gm_49 (k0 h149 (gh149) (by omega) (by omega) (by first | exact Lo_h149 | exact ⟨st.1, st.2.1, st.2.2.2.2⟩ | exact Or.inl ⟨by omega, zF, st.2.2.1, st.2.2.2.1⟩ | exact Or.inr (Or.inr (Or.inl ⟨by omega, by omega, zC, st.2.2.1, st.2.2.2.1⟩)) | exact Or.inr (Or.inr (Or.inr (Or.inl ⟨by omega, by omega, zW, st.2.2.2.1⟩))) | exact Or.inr (Or.inr (Or.inr (Or.inr (Or.inl ⟨by omega, by omega, zJ, fun _ => st.2.2.1, st.2.2.2.1⟩)))) | exact Or.inr (Or.inr (Or.inr (Or.inr (Or.inr (Or.inl ⟨by omega, by omega, zS, st.2.2.1, st.2.2.2.1⟩))))) | exact ⟨_, _, _, Or.inl ⟨by omega, zF, rfl, rfl⟩⟩ | exact ⟨_, _, _, Or.inr (Or.inr (Or.inl ⟨by omega, by omega, zC, rfl, rfl⟩))⟩ | exact ⟨_, _, _, Or.inr (Or.inr (Or.inr (Or.inl ⟨by omega, by omega, zW, rfl⟩)))⟩ | exact ⟨_, _, _, Or.inr (Or.inr (Or.inr (Or.inr (Or.inl ⟨by omega, by omega, zJ, fun q => absurd q (by omega), rfl⟩))))⟩ | exact ⟨_, _, _, Or.inr (Or.inr (Or.inr (Or.inr (Or.inr (Or.inl ⟨by omega, by omega, zS, rfl, rfl⟩)))))⟩ | exact ⟨0, 0, 0, Or.inr (Or.inl ⟨by omega, by omega, by omega⟩)⟩ | exact ⟨0, 0, 0, Or.inr (Or.inr (Or.inr (Or.inr (Or.inr (Or.inr ⟨by omega, by omega, by omega, by omega, by omega, by omega⟩)))))⟩ | (exfalso; omega) | omega) (by first | exact Lo_h149 | exact ⟨st.1, st.2.1, st.2.2.2.2⟩ | exact Or.inl ⟨by omega, zF, st.2.2.1, st.2.2.2.1⟩ | exact Or.inr (Or.inr (Or.inl ⟨by omega, by omega, zC, st.2.2.1, st.2.2.2.1⟩)) | exact Or.inr (Or.inr (Or.inr (Or.inl ⟨by omega, by omega, zW, st.2.2.2.1⟩))) | exact Or.inr (Or.inr (Or.inr (Or.inr (Or.inl ⟨by omega, by omega, zJ, fun _ => st.2.2.1, st.2.2.2.1⟩)))) | exact Or.inr (Or.inr (Or.inr (Or.inr (Or.inr (Or.inl ⟨by omega, by omega, zS, st.2.2.1, st.2.2.2.1⟩))))) | exact ⟨_, _, _, Or.inl ⟨by omega, zF, rfl, rfl⟩⟩ | exact ⟨_, _, _, Or.inr (Or.inr (Or.inl ⟨by omega, by omega, zC, rfl, rfl⟩))⟩ | exact ⟨_, _, _, Or.inr (Or.inr (Or.inr (Or.inl ⟨by omega, by omega, zW, rfl⟩)))⟩ | exact ⟨_, _, _, Or.inr (Or.inr (Or.inr (Or.inr (Or.inl ⟨by omega, by omega, zJ, fun q => absurd q (by omega), rfl⟩))))⟩ | exact ⟨_, _, _, Or.inr (Or.inr (Or.inr (Or.inr (Or.inr (Or.inl ⟨by omega, by omega, zS, rfl, rfl⟩)))))⟩ | exact ⟨0, 0, 0, Or.inr (Or.inl ⟨by omega, by omega, by omega⟩)⟩ | exact ⟨0, 0, 0, Or.inr (Or.inr (Or.inr (Or.inr (Or.inr (Or.inr ⟨by omega, by omega, by omega, by omega, by omega, by omega⟩)))))⟩ | (exfalso; omega) | omega) Ln_h149 Sp_h149 Al_h149 Cu_h149)
          ·
            show wp l rho (d + 7) 49 35 [(2, 82), (0, 0), (0, 0), (0, 0), (0, 1), (9, 0)] [(0, 1)] h Q
            rw [show wc ((8 : Nat) : Int) = 26801 from by decide] at xp96
            refine w_istore (ls' := [(2, 82), (0, 0), (0, 0), (0, 0), (0, 1), (0, 1)]) gz_49_35 gm_49 rfl rfl rfl ?_
            refine w_iload_n gz_49_37 rfl ?_
            refine w_ifne (t := 65) gz_49_38 rfl (fun u151 => by exfalso; omega) (fun u151 => ?_)
            refine w_iload_n gz_49_41 rfl ?_
            refine w_ifne (t := 65) gz_49_42 rfl (fun u152 => by exfalso; omega) (fun u152 => ?_)
            refine w_iload_n gz_49_45 rfl ?_
            refine w_ifne (t := 65) gz_49_46 rfl (fun u153 => by exfalso; omega) (fun u153 => ?_)
            refine w_iload gz_49_49 rfl ?_
            refine w_ifne (t := 65) gz_49_51 rfl (fun u154 => ?_) (fun u154 => by exfalso; omega)
            refine w_iload_n gz_49_65 rfl ?_
            refine w_ifne (t := 87) gz_49_66 rfl (fun u155 => by exfalso; omega) (fun u155 => ?_)
            refine w_aload_n gz_49_69 rfl ?_
            refine v_getR (j := 2) gz_49_70 rfl is_82 rd_5 rfl (fun v156 ev156 tv156 => ?_)
            have sE73 : v156 = h 82 2 := by first | assumption | omega
            refine v_getI (j := 9) gz_49_73 rfl tv156 rd_4 rfl (fun v157 ev157 pv157 qv157 => ?_)
            have c76 : v157 = h (h 82 2) 9 := by rw [← sE73]; omega
            refine w_bipush gz_49_76 (by decide) ?_
            refine w_iclt (t := 87) gz_49_78 rfl (fun u158 => ?_) (fun u158 => ?_)
            ·
              have St5_ht159 : St5 h := ⟨by subst_vars; omega, by subst_vars; omega⟩
              refine w_aload_n gz_49_87 rfl ?_
              refine w_inv (k := 2) (as := []) (r := []) (x := 82) (ls0 := [(2, 82), (9, 0), (9, 0)]) gz_49_88 gm_37 rfl is_82 rd_5 rfl rfl rfl rfl rfl (c_Reader_nextToken9_f0 (d := (d + 5))  (cf.trans (by omega)) n_Al (fun h160 frh160 w161 w162 w163 xp164 xp165 Al_h160t166 Cu_h160t167 => ?_))
              have gh160 : my_fr [(4, 4), (4, 5), (4, 6), (4, 7), (4, 8), (4, 9), (5, 5), (5, 6), (5, 7), (5, 8), (5, 9), (32, -1), (33, -1), (34, -1), (35, -1), (36, -1), (37, -1), (38, -1), (39, -1)] h h160 := my_fr.tr my_fr.rf (frh160.mo rfl)
              have Ln_h160 : Ln h160 := Ln_ag (my_ag.fr frh160 rfl) n_Ln
              have Sp_h160 : Sp h160 wv := Sp_ag (my_ag.fr frh160 rfl) hwv n_Ln n_Sp
              have Lo_h160 : Lo h h160 := Lo_ag (my_ag.fr frh160 rfl) n_Ln (Lo_rf)
              have St5_h160 : St5 h160 := St5_ag (my_ag.fr frh160 rfl) n_Ln St5_ht159
              show wp l rho (d + 7) 49 91 [(2, 82), (0, 0), (0, 0), (0, 0), (0, 1), (0, 1)] [] h160 Q
              have xc168 := xp164 n_Cu
              have ck169 := Cu_s Cu_h160t167
              rw [show cs h160 = cs h from cs_eq (fun j => my_fr.at gh160 is_92 rfl) (my_fr.at gh160 is_82 rfl)] at ck169
              rw [show h160 82 7 = (sN (cs h) (h 82 7)) from xc168] at ck169
              refine w_iload_n gz_49_91 rfl ?_
              refine w_ifeq (t := 102) gz_49_92 rfl (fun u170 => ?_) (fun u170 => by exfalso; omega)
              refine w_iload_n gz_49_102 rfl ?_
              refine w_ifeq (t := 113) gz_49_103 rfl (fun u171 => ?_) (fun u171 => by exfalso; omega)
              refine w_iload_n gz_49_113 rfl ?_
              refine w_ifeq (t := 124) gz_49_114 rfl (fun u172 => ?_) (fun u172 => by exfalso; omega)
              refine w_iload gz_49_124 rfl ?_
              refine w_ifeq (t := 136) gz_49_126 rfl (fun u173 => by exfalso; omega) (fun u173 => ?_)
              refine w_aload_n gz_49_129 rfl ?_
              refine w_inv (k := 3) (as := []) (r := []) (x := 82) (ls0 := [(2, 82), (9, 0), (9, 0), (9, 0)]) gz_49_130 gm_60 rfl is_82 rd_5 rfl rfl rfl rfl rfl (c_Reader_readJoin9_f0 (d := d)  (wv := wv) (((my_fr.at frh160 is_82 rfl).trans cf).trans (by omega)) (by first | assumption | omega) (by first | assumption | omega) Ln_h160 Sp_h160 St5_h160 Al_h160t166 Cu_h160t167 (fun h174 frh174 w175 w176 xp177 xp178 Ln_h174t179 Sp_h174t180 Al_h174t181 Cu_h174t182 => ?_) (fun h183 frh183 w184 xp185 xp186 xp187 Ln_h183t188 Sp_h183t189 Al_h183t190 Cu_h183t191 => ?_))
              ·
                have gh174 : my_fr [(4, 4), (4, 5), (4, 6), (4, 7), (4, 8), (4, 9), (5, 5), (5, 6), (5, 7), (5, 8), (5, 9), (32, -1), (33, -1), (34, -1), (35, -1), (36, -1), (37, -1), (38, -1), (39, -1)] h h174 := my_fr.tr gh160 (frh174.mo rfl)
                show wp l rho (d + 7) 49 133 [(2, 82), (0, 0), (0, 0), (0, 0), (0, 1), (0, 1)] [] h174 Q
                have tE192 : cs h160 = cs h := cs_eq (fun j => my_fr.at gh160 is_92 rfl) (my_fr.at gh160 is_82 rfl)
                rw [tE192] at xp177
                have ps193 : h160 82 7 = (sN (cs h) (h 82 7)) := xc168
                rw [ps193] at xp177
                have q2 : h160 82 2 = h 82 2 := my_fr.at frh160 is_82 rfl
                have q11 : h160 (h 82 2) 1 = h (h 82 2) 1 := my_fr.at frh160 n_Ln.2.2.2.1 rfl
                have q13 : h160 (h 82 2) 3 = h (h 82 2) 3 := my_fr.at frh160 n_Ln.2.2.2.1 rfl
                have q14 : h160 (h 82 2) 4 = h (h 82 2) 4 := my_fr.at frh160 n_Ln.2.2.2.1 rfl
                have q19 : h160 (h 82 2) 9 = h (h 82 2) 9 := my_fr.at frh160 n_Ln.2.2.2.1 rfl
                have qc : h160 2 = h 2 := funext (fun j => my_fr.at frh160 is_2 rfl)
                have zJ := xp177
                simp only [q2, q11, q13, q14, q19, qc] at zJ
                have Lo_h174t194 : Lo h h174 := Lo_tr Lo_h160 xp178
                refine w_goto (t := 140) gz_49_133 rfl ?_
                have psR : h174 82 7 = h174 82 7 := (rfl : h174 82 7 = h174 82 7)
                have npsR : cs h174 = cs h := cs_eq (fun j => my_fr.at gh174 is_92 rfl) (my_fr.at gh174 is_82 rfl)
                have c195 := (rfl : h174 82 9 = h174 82 9)
                exact w_vret gz_49_140 gm_49 (k0 h174 (gh174) (by omega) (by omega) (by first | exact Lo_h174t194 | exact ⟨st.1, st.2.1, st.2.2.2.2⟩ | exact Or.inl ⟨by omega, zF, st.2.2.1, st.2.2.2.1⟩ | exact Or.inr (Or.inr (Or.inl ⟨by omega, by omega, zC, st.2.2.1, st.2.2.2.1⟩)) | exact Or.inr (Or.inr (Or.inr (Or.inl ⟨by omega, by omega, zW, st.2.2.2.1⟩))) | exact Or.inr (Or.inr (Or.inr (Or.inr (Or.inl ⟨by omega, by omega, zJ, fun _ => st.2.2.1, st.2.2.2.1⟩)))) | exact Or.inr (Or.inr (Or.inr (Or.inr (Or.inr (Or.inl ⟨by omega, by omega, zS, st.2.2.1, st.2.2.2.1⟩))))) | exact ⟨_, _, _, Or.inl ⟨by omega, zF, rfl, rfl⟩⟩ | exact ⟨_, _, _, Or.inr (Or.inr (Or.inl ⟨by omega, by omega, zC, rfl, rfl⟩))⟩ | exact ⟨_, _, _, Or.inr (Or.inr (Or.inr (Or.inl ⟨by omega, by omega, zW, rfl⟩)))⟩ | exact ⟨_, _, _, Or.inr (Or.inr (Or.inr (Or.inr (Or.inl ⟨by omega, by omega, zJ, fun q => absurd q (by omega), rfl⟩))))⟩ | exact ⟨_, _, _, Or.inr (Or.inr (Or.inr (Or.inr (Or.inr (Or.inl ⟨by omega, by omega, zS, rfl, rfl⟩)))))⟩ | exact ⟨0, 0, 0, Or.inr (Or.inl ⟨by omega, by omega, by omega⟩)⟩ | exact ⟨0, 0, 0, Or.inr (Or.inr (Or.inr (Or.inr (Or.inr (Or.inr ⟨by omega, by omega, by omega, by omega, by omega, by omega⟩)))))⟩ | (exfalso; omega) | omega) (by first | exact Lo_h174t194 | exact ⟨st.1, st.2.1, st.2.2.2.2⟩ | exact Or.inl ⟨by omega, zF, st.2.2.1, st.2.2.2.1⟩ | exact Or.inr (Or.inr (Or.inl ⟨by omega, by omega, zC, st.2.2.1, st.2.2.2.1⟩)) | exact Or.inr (Or.inr (Or.inr (Or.inl ⟨by omega, by omega, zW, st.2.2.2.1⟩))) | exact Or.inr (Or.inr (Or.inr (Or.inr (Or.inl ⟨by omega, by omega, zJ, fun _ => st.2.2.1, st.2.2.2.1⟩)))) | exact Or.inr (Or.inr (Or.inr (Or.inr (Or.inr (Or.inl ⟨by omega, by omega, zS, st.2.2.1, st.2.2.2.1⟩))))) | exact ⟨_, _, _, Or.inl ⟨by omega, zF, rfl, rfl⟩⟩ | exact ⟨_, _, _, Or.inr (Or.inr (Or.inl ⟨by omega, by omega, zC, rfl, rfl⟩))⟩ | exact ⟨_, _, _, Or.inr (Or.inr (Or.inr (Or.inl ⟨by omega, by omega, zW, rfl⟩)))⟩ | exact ⟨_, _, _, Or.inr (Or.inr (Or.inr (Or.inr (Or.inl ⟨by omega, by omega, zJ, fun q => absurd q (by omega), rfl⟩))))⟩ | exact ⟨_, _, _, Or.inr (Or.inr (Or.inr (Or.inr (Or.inr (Or.inl ⟨by omega, by omega, zS, rfl, rfl⟩)))))⟩ | exact ⟨0, 0, 0, Or.inr (Or.inl ⟨by omega, by omega, by omega⟩)⟩ | exact ⟨0, 0, 0, Or.inr (Or.inr (Or.inr (Or.inr (Or.inr (Or.inr ⟨by omega, by omega, by omega, by omega, by omega, by omega⟩)))))⟩ | (exfalso; omega) | omega) Ln_h174t179 Sp_h174t180 Al_h174t181 Cu_h174t182)
              ·
                have gh183 : my_fr [(4, 4), (4, 5), (4, 6), (4, 7), (4, 8), (4, 9), (5, 5), (5, 6), (5, 7), (5, 8), (5, 9), (32, -1), (33, -1), (34, -1), (35, -1), (36, -1), (37, -1), (38, -1), (39, -1)] h h183 := my_fr.tr gh160 (frh183.mo rfl)
                show wp l rho (d + 7) 49 133 [(2, 82), (0, 0), (0, 0), (0, 0), (0, 1), (0, 1)] [] h183 Q
                have tE196 : cs h160 = cs h := cs_eq (fun j => my_fr.at gh160 is_92 rfl) (my_fr.at gh160 is_82 rfl)
                rw [tE196] at xp185
                have ps197 : h160 82 7 = (sN (cs h) (h 82 7)) := xc168
                rw [ps197] at xp185
                rw [tE196] at xp186
                rw [ps197] at xp186
                have q2 : h160 82 2 = h 82 2 := my_fr.at frh160 is_82 rfl
                have q11 : h160 (h 82 2) 1 = h (h 82 2) 1 := my_fr.at frh160 n_Ln.2.2.2.1 rfl
                have q13 : h160 (h 82 2) 3 = h (h 82 2) 3 := my_fr.at frh160 n_Ln.2.2.2.1 rfl
                have q14 : h160 (h 82 2) 4 = h (h 82 2) 4 := my_fr.at frh160 n_Ln.2.2.2.1 rfl
                have q19 : h160 (h 82 2) 9 = h (h 82 2) 9 := my_fr.at frh160 n_Ln.2.2.2.1 rfl
                have qc : h160 2 = h 2 := funext (fun j => my_fr.at frh160 is_2 rfl)
                have zJ := xp185
                simp only [q2, q11, q13, q14, q19, qc] at zJ
                have st := xp186
                unfold Std at st
                simp only [q2, q11, q13, q14, q19, qc] at st
                have Lo_h183t198 : Lo h h183 := Lo_tr Lo_h160 xp187
                refine w_goto (t := 140) gz_49_133 rfl ?_
                have psR : h183 82 7 = h183 82 7 := (rfl : h183 82 7 = h183 82 7)
                have npsR : cs h183 = cs h := cs_eq (fun j => my_fr.at gh183 is_92 rfl) (my_fr.at gh183 is_82 rfl)
                have c199 := w184
                exact w_vret gz_49_140 gm_49 (k1 h183 (gh183) (by omega) (by first | exact Lo_h183t198 | exact ⟨st.1, st.2.1, st.2.2.2.2⟩ | exact Or.inl ⟨by omega, zF, st.2.2.1, st.2.2.2.1⟩ | exact Or.inr (Or.inr (Or.inl ⟨by omega, by omega, zC, st.2.2.1, st.2.2.2.1⟩)) | exact Or.inr (Or.inr (Or.inr (Or.inl ⟨by omega, by omega, zW, st.2.2.2.1⟩))) | exact Or.inr (Or.inr (Or.inr (Or.inr (Or.inl ⟨by omega, by omega, zJ, fun _ => st.2.2.1, st.2.2.2.1⟩)))) | exact Or.inr (Or.inr (Or.inr (Or.inr (Or.inr (Or.inl ⟨by omega, by omega, zS, st.2.2.1, st.2.2.2.1⟩))))) | exact ⟨_, _, _, Or.inl ⟨by omega, zF, rfl, rfl⟩⟩ | exact ⟨_, _, _, Or.inr (Or.inr (Or.inl ⟨by omega, by omega, zC, rfl, rfl⟩))⟩ | exact ⟨_, _, _, Or.inr (Or.inr (Or.inr (Or.inl ⟨by omega, by omega, zW, rfl⟩)))⟩ | exact ⟨_, _, _, Or.inr (Or.inr (Or.inr (Or.inr (Or.inl ⟨by omega, by omega, zJ, fun q => absurd q (by omega), rfl⟩))))⟩ | exact ⟨_, _, _, Or.inr (Or.inr (Or.inr (Or.inr (Or.inr (Or.inl ⟨by omega, by omega, zS, rfl, rfl⟩)))))⟩ | exact ⟨0, 0, 0, Or.inr (Or.inl ⟨by omega, by omega, by omega⟩)⟩ | exact ⟨0, 0, 0, Or.inr (Or.inr (Or.inr (Or.inr (Or.inr (Or.inr ⟨by omega, by omega, by omega, by omega, by omega, by omega⟩)))))⟩ | (exfalso; omega) | omega) (by first | exact Lo_h183t198 | exact ⟨st.1, st.2.1, st.2.2.2.2⟩ | exact Or.inl ⟨by omega, zF, st.2.2.1, st.2.2.2.1⟩ | exact Or.inr (Or.inr (Or.inl ⟨by omega, by omega, zC, st.2.2.1, st.2.2.2.1⟩)) | exact Or.inr (Or.inr (Or.inr (Or.inl ⟨by omega, by omega, zW, st.2.2.2.1⟩))) | exact Or.inr (Or.inr (Or.inr (Or.inr (Or.inl ⟨by omega, by omega, zJ, fun _ => st.2.2.1, st.2.2.2.1⟩)))) | exact Or.inr (Or.inr (Or.inr (Or.inr (Or.inr (Or.inl ⟨by omega, by omega, zS, st.2.2.1, st.2.2.2.1⟩))))) | exact ⟨_, _, _, Or.inl ⟨by omega, zF, rfl, rfl⟩⟩ | exact ⟨_, _, _, Or.inr (Or.inr (Or.inl ⟨by omega, by omega, zC, rfl, rfl⟩))⟩ | exact ⟨_, _, _, Or.inr (Or.inr (Or.inr (Or.inl ⟨by omega, by omega, zW, rfl⟩)))⟩ | exact ⟨_, _, _, Or.inr (Or.inr (Or.inr (Or.inr (Or.inl ⟨by omega, by omega, zJ, fun q => absurd q (by omega), rfl⟩))))⟩ | exact ⟨_, _, _, Or.inr (Or.inr (Or.inr (Or.inr (Or.inr (Or.inl ⟨by omega, by omega, zS, rfl, rfl⟩)))))⟩ | exact ⟨0, 0, 0, Or.inr (Or.inl ⟨by omega, by omega, by omega⟩)⟩ | exact ⟨0, 0, 0, Or.inr (Or.inr (Or.inr (Or.inr (Or.inr (Or.inr ⟨by omega, by omega, by omega, by omega, by omega, by omega⟩)))))⟩ | (exfalso; omega) | omega) (by first | exact Lo_h183t198 | exact ⟨st.1, st.2.1, st.2.2.2.2⟩ | exact Or.inl ⟨by omega, zF, st.2.2.1, st.2.2.2.1⟩ | exact Or.inr (Or.inr (Or.inl ⟨by omega, by omega, zC, st.2.2.1, st.2.2.2.1⟩)) | exact Or.inr (Or.inr (Or.inr (Or.inl ⟨by omega, by omega, zW, st.2.2.2.1⟩))) | exact Or.inr (Or.inr (Or.inr (Or.inr (Or.inl ⟨by omega, by omega, zJ, fun _ => st.2.2.1, st.2.2.2.1⟩)))) | exact Or.inr (Or.inr (Or.inr (Or.inr (Or.inr (Or.inl ⟨by omega, by omega, zS, st.2.2.1, st.2.2.2.1⟩))))) | exact ⟨_, _, _, Or.inl ⟨by omega, zF, rfl, rfl⟩⟩ | exact ⟨_, _, _, Or.inr (Or.inr (Or.inl ⟨by omega, by omega, zC, rfl, rfl⟩))⟩ | exact ⟨_, _, _, Or.inr (Or.inr (Or.inr (Or.inl ⟨by omega, by omega, zW, rfl⟩)))⟩ | exact ⟨_, _, _, Or.inr (Or.inr (Or.inr (Or.inr (Or.inl ⟨by omega, by omega, zJ, fun q => absurd q (by omega), rfl⟩))))⟩ | exact ⟨_, _, _, Or.inr (Or.inr (Or.inr (Or.inr (Or.inr (Or.inl ⟨by omega, by omega, zS, rfl, rfl⟩)))))⟩ | exact ⟨0, 0, 0, Or.inr (Or.inl ⟨by omega, by omega, by omega⟩)⟩ | exact ⟨0, 0, 0, Or.inr (Or.inr (Or.inr (Or.inr (Or.inr (Or.inr ⟨by omega, by omega, by omega, by omega, by omega, by omega⟩)))))⟩ | (exfalso; omega) | omega) Ln_h183t188 Sp_h183t189 Al_h183t190 Cu_h183t191)
            ·
              refine w_aload_n gz_49_81 rfl ?_
              refine w_iconst gz_49_82 (by decide) ?_
              refine w_inv (k := 0) (as := [(0, 5)]) (r := []) (x := 82) (ls0 := [(2, 82), (0, 5)]) gz_49_83 gm_42 rfl is_82 rd_5 rfl rfl rfl rfl rfl ?_
              refine w_aload_n gz_42_0 rfl ?_
              refine v_getI (j := 9) gz_42_1 rfl is_82 rd_5 rfl (fun v200 ev200 pv200 qv200 => ?_)
              have zv200 := ev200.trans cf
              refine w_ifne (t := 20) gz_42_4 rfl (fun u201 => by exfalso; omega) (fun u201 => ?_)
              refine w_aload_n gz_42_7 rfl ?_
              refine w_iload_n gz_42_8 rfl ?_
              refine w_bipush gz_42_9 (by decide) ?_
              refine w_aload_n gz_42_11 rfl ?_
              refine v_getI (j := 7) gz_42_12 rfl is_82 rd_5 rfl (fun v202 ev202 pv202 qv202 => ?_)
              refine w_imul gz_42_15 ⟨by omega, by omega⟩ ?_
              refine w_iadd gz_42_16 ⟨by omega, by omega⟩ ?_
              refine v_putI (j := 9) gz_42_17 rfl is_82 rd_5 rfl (by omega) (by omega) rfl (fun h203 fh203 => ?_)
              have gh203 : my_fr [(4, 4), (4, 5), (4, 6), (4, 7), (4, 8), (4, 9), (5, 5), (5, 6), (5, 7), (5, 8), (5, 9), (32, -1), (33, -1), (34, -1), (35, -1), (36, -1), (37, -1), (38, -1), (39, -1)] h h203 := my_fr.up my_fr.rf is_82 fh203 rfl
              have Ln_h203 : Ln h203 := Ln_ag (my_ag.up fh203 is_82 rfl) n_Ln
              have Sp_h203 : Sp h203 wv := Sp_ag (my_ag.up fh203 is_82 rfl) hwv n_Ln n_Sp
              have Al_h203 : Al h203 := Al_ag (my_ag.up fh203 is_82 rfl) n_Al
              have Cu_h203 : Cu h203 := Cu_ag (my_ag.up fh203 is_82 rfl) n_Cu
              have Lo_h203 : Lo h h203 := Lo_ag (my_ag.up fh203 is_82 rfl) n_Ln (Lo_rf)
              refine w_vret gz_42_20 gm_42 ?_
              show wp l rho (d + 7) 49 86 [(2, 82), (0, 0), (0, 0), (0, 0), (0, 1), (0, 1)] [] h203 Q
              have psR : h203 82 7 = h 82 7 := ((my_up_fld fh203 (by decide)).trans (rfl : h 82 7 = h 82 7))
              have npsR : cs h203 = cs h := cs_eq (fun j => my_fr.at gh203 is_92 rfl) (my_fr.at gh203 is_82 rfl)
              have c204 := (my_up_self fh203)
              exact w_vret gz_49_86 gm_49 (k0 h203 (gh203) (by omega) (by omega) (by first | exact Lo_h203 | exact ⟨st.1, st.2.1, st.2.2.2.2⟩ | exact Or.inl ⟨by omega, zF, st.2.2.1, st.2.2.2.1⟩ | exact Or.inr (Or.inr (Or.inl ⟨by omega, by omega, zC, st.2.2.1, st.2.2.2.1⟩)) | exact Or.inr (Or.inr (Or.inr (Or.inl ⟨by omega, by omega, zW, st.2.2.2.1⟩))) | exact Or.inr (Or.inr (Or.inr (Or.inr (Or.inl ⟨by omega, by omega, zJ, fun _ => st.2.2.1, st.2.2.2.1⟩)))) | exact Or.inr (Or.inr (Or.inr (Or.inr (Or.inr (Or.inl ⟨by omega, by omega, zS, st.2.2.1, st.2.2.2.1⟩))))) | exact ⟨_, _, _, Or.inl ⟨by omega, zF, rfl, rfl⟩⟩ | exact ⟨_, _, _, Or.inr (Or.inr (Or.inl ⟨by omega, by omega, zC, rfl, rfl⟩))⟩ | exact ⟨_, _, _, Or.inr (Or.inr (Or.inr (Or.inl ⟨by omega, by omega, zW, rfl⟩)))⟩ | exact ⟨_, _, _, Or.inr (Or.inr (Or.inr (Or.inr (Or.inl ⟨by omega, by omega, zJ, fun q => absurd q (by omega), rfl⟩))))⟩ | exact ⟨_, _, _, Or.inr (Or.inr (Or.inr (Or.inr (Or.inr (Or.inl ⟨by omega, by omega, zS, rfl, rfl⟩)))))⟩ | exact ⟨0, 0, 0, Or.inr (Or.inl ⟨by omega, by omega, by omega⟩)⟩ | exact ⟨0, 0, 0, Or.inr (Or.inr (Or.inr (Or.inr (Or.inr (Or.inr ⟨by omega, by omega, by omega, by omega, by omega, by omega⟩)))))⟩ | (exfalso; omega) | omega) (by first | exact Lo_h203 | exact ⟨st.1, st.2.1, st.2.2.2.2⟩ | exact Or.inl ⟨by omega, zF, st.2.2.1, st.2.2.2.1⟩ | exact Or.inr (Or.inr (Or.inl ⟨by omega, by omega, zC, st.2.2.1, st.2.2.2.1⟩)) | exact Or.inr (Or.inr (Or.inr (Or.inl ⟨by omega, by omega, zW, st.2.2.2.1⟩))) | exact Or.inr (Or.inr (Or.inr (Or.inr (Or.inl ⟨by omega, by omega, zJ, fun _ => st.2.2.1, st.2.2.2.1⟩)))) | exact Or.inr (Or.inr (Or.inr (Or.inr (Or.inr (Or.inl ⟨by omega, by omega, zS, st.2.2.1, st.2.2.2.1⟩))))) | exact ⟨_, _, _, Or.inl ⟨by omega, zF, rfl, rfl⟩⟩ | exact ⟨_, _, _, Or.inr (Or.inr (Or.inl ⟨by omega, by omega, zC, rfl, rfl⟩))⟩ | exact ⟨_, _, _, Or.inr (Or.inr (Or.inr (Or.inl ⟨by omega, by omega, zW, rfl⟩)))⟩ | exact ⟨_, _, _, Or.inr (Or.inr (Or.inr (Or.inr (Or.inl ⟨by omega, by omega, zJ, fun q => absurd q (by omega), rfl⟩))))⟩ | exact ⟨_, _, _, Or.inr (Or.inr (Or.inr (Or.inr (Or.inr (Or.inl ⟨by omega, by omega, zS, rfl, rfl⟩)))))⟩ | exact ⟨0, 0, 0, Or.inr (Or.inl ⟨by omega, by omega, by omega⟩)⟩ | exact ⟨0, 0, 0, Or.inr (Or.inr (Or.inr (Or.inr (Or.inr (Or.inr ⟨by omega, by omega, by omega, by omega, by omega, by omega⟩)))))⟩ | (exfalso; omega) | omega) Ln_h203 Sp_h203 Al_h203 Cu_h203)
      ·
        show wp l rho (d + 7) 49 20 [(2, 82), (0, 0), (0, 0), (9, 0), (9, 0), (9, 0)] [(0, 1)] h Q
        rw [show wc ((6 : Nat) : Int) = 8422 from by decide] at xp16
        refine w_istore_n (ls' := [(2, 82), (0, 0), (0, 0), (0, 1), (9, 0), (9, 0)]) gz_49_20 gm_49 rfl rfl rfl ?_
        refine w_aload_n gz_49_21 rfl ?_
        refine w_ldcS gz_49_22 (by decide) ?_
        refine w_inv (k := 1) (as := [(3, ((7 : Nat) : Int))]) (r := []) (x := 82) (ls0 := [(2, 82), (3, ((7 : Nat) : Int)), (9, 0)]) gz_49_24 gm_41 rfl is_82 rd_5 rfl rfl rfl rfl rfl (c_Reader_isWord9_f0 (d := (d + 2)) (x1 := ((7 : Nat) : Int)) (by decide) (cf.trans (by omega)) n_Cu (fun w205 xp206 => ?_) (fun w207 w208 xp209 => ?_))
        ·
          show wp l rho (d + 7) 49 27 [(2, 82), (0, 0), (0, 0), (0, 1), (9, 0), (9, 0)] [(0, 0)] h Q
          rw [show wc ((7 : Nat) : Int) = 527412 from by decide] at xp206
          refine w_istore (ls' := [(2, 82), (0, 0), (0, 0), (0, 1), (0, 0), (9, 0)]) gz_49_27 gm_49 rfl rfl rfl ?_
          refine w_aload_n gz_49_29 rfl ?_
          refine w_ldcS gz_49_30 (by decide) ?_
          refine w_inv (k := 1) (as := [(3, ((8 : Nat) : Int))]) (r := []) (x := 82) (ls0 := [(2, 82), (3, ((8 : Nat) : Int)), (9, 0)]) gz_49_32 gm_41 rfl is_82 rd_5 rfl rfl rfl rfl rfl (c_Reader_isWord9_f0 (d := (d + 2)) (x1 := ((8 : Nat) : Int)) (by decide) (cf.trans (by omega)) n_Cu (fun w210 xp211 => ?_) (fun w212 w213 xp214 => ?_))
          ·
            show wp l rho (d + 7) 49 35 [(2, 82), (0, 0), (0, 0), (0, 1), (0, 0), (9, 0)] [(0, 0)] h Q
            rw [show wc ((8 : Nat) : Int) = 26801 from by decide] at xp211
            refine w_istore (ls' := [(2, 82), (0, 0), (0, 0), (0, 1), (0, 0), (0, 0)]) gz_49_35 gm_49 rfl rfl rfl ?_
            refine w_iload_n gz_49_37 rfl ?_
            refine w_ifne (t := 65) gz_49_38 rfl (fun u215 => by exfalso; omega) (fun u215 => ?_)
            refine w_iload_n gz_49_41 rfl ?_
            refine w_ifne (t := 65) gz_49_42 rfl (fun u216 => by exfalso; omega) (fun u216 => ?_)
            refine w_iload_n gz_49_45 rfl ?_
            refine w_ifne (t := 65) gz_49_46 rfl (fun u217 => ?_) (fun u217 => by exfalso; omega)
            refine w_iload_n gz_49_65 rfl ?_
            refine w_ifne (t := 87) gz_49_66 rfl (fun u218 => by exfalso; omega) (fun u218 => ?_)
            refine w_aload_n gz_49_69 rfl ?_
            refine v_getR (j := 2) gz_49_70 rfl is_82 rd_5 rfl (fun v219 ev219 tv219 => ?_)
            have sE73 : v219 = h 82 2 := by first | assumption | omega
            refine v_getI (j := 9) gz_49_73 rfl tv219 rd_4 rfl (fun v220 ev220 pv220 qv220 => ?_)
            have c76 : v220 = h (h 82 2) 9 := by rw [← sE73]; omega
            refine w_bipush gz_49_76 (by decide) ?_
            refine w_iclt (t := 87) gz_49_78 rfl (fun u221 => ?_) (fun u221 => ?_)
            ·
              have St5_ht222 : St5 h := ⟨by subst_vars; omega, by subst_vars; omega⟩
              refine w_aload_n gz_49_87 rfl ?_
              refine w_inv (k := 2) (as := []) (r := []) (x := 82) (ls0 := [(2, 82), (9, 0), (9, 0)]) gz_49_88 gm_37 rfl is_82 rd_5 rfl rfl rfl rfl rfl (c_Reader_nextToken9_f0 (d := (d + 5))  (cf.trans (by omega)) n_Al (fun h223 frh223 w224 w225 w226 xp227 xp228 Al_h223t229 Cu_h223t230 => ?_))
              have gh223 : my_fr [(4, 4), (4, 5), (4, 6), (4, 7), (4, 8), (4, 9), (5, 5), (5, 6), (5, 7), (5, 8), (5, 9), (32, -1), (33, -1), (34, -1), (35, -1), (36, -1), (37, -1), (38, -1), (39, -1)] h h223 := my_fr.tr my_fr.rf (frh223.mo rfl)
              have Ln_h223 : Ln h223 := Ln_ag (my_ag.fr frh223 rfl) n_Ln
              have Sp_h223 : Sp h223 wv := Sp_ag (my_ag.fr frh223 rfl) hwv n_Ln n_Sp
              have Lo_h223 : Lo h h223 := Lo_ag (my_ag.fr frh223 rfl) n_Ln (Lo_rf)
              have St5_h223 : St5 h223 := St5_ag (my_ag.fr frh223 rfl) n_Ln St5_ht222
              show wp l rho (d + 7) 49 91 [(2, 82), (0, 0), (0, 0), (0, 1), (0, 0), (0, 0)] [] h223 Q
              have xc231 := xp227 n_Cu
              have ck232 := Cu_s Cu_h223t230
              rw [show cs h223 = cs h from cs_eq (fun j => my_fr.at gh223 is_92 rfl) (my_fr.at gh223 is_82 rfl)] at ck232
              rw [show h223 82 7 = (sN (cs h) (h 82 7)) from xc231] at ck232
              refine w_iload_n gz_49_91 rfl ?_
              refine w_ifeq (t := 102) gz_49_92 rfl (fun u233 => ?_) (fun u233 => by exfalso; omega)
              refine w_iload_n gz_49_102 rfl ?_
              refine w_ifeq (t := 113) gz_49_103 rfl (fun u234 => ?_) (fun u234 => by exfalso; omega)
              refine w_iload_n gz_49_113 rfl ?_
              refine w_ifeq (t := 124) gz_49_114 rfl (fun u235 => by exfalso; omega) (fun u235 => ?_)
              refine w_aload_n gz_49_117 rfl ?_
              refine w_inv (k := 2) (as := []) (r := []) (x := 82) (ls0 := [(2, 82), (9, 0), (9, 0)]) gz_49_118 gm_56 rfl is_82 rd_5 rfl rfl rfl rfl rfl (c_Reader_readFew9_f0 (d := (d + 4))  (wv := wv) (((my_fr.at frh223 is_82 rfl).trans cf).trans (by omega)) (by first | assumption | omega) (by first | assumption | omega) Ln_h223 Sp_h223 St5_h223 Al_h223t229 Cu_h223t230 (fun h236 frh236 w237 w238 xp239 xp240 Ln_h236t241 Sp_h236t242 Al_h236t243 Cu_h236t244 => ?_) (fun h245 frh245 w246 xp247 xp248 xp249 Ln_h245t250 Sp_h245t251 Al_h245t252 Cu_h245t253 => ?_))
              ·
                have gh236 : my_fr [(4, 4), (4, 5), (4, 6), (4, 7), (4, 8), (4, 9), (5, 5), (5, 6), (5, 7), (5, 8), (5, 9), (32, -1), (33, -1), (34, -1), (35, -1), (36, -1), (37, -1), (38, -1), (39, -1)] h h236 := my_fr.tr gh223 (frh236.mo rfl)
                show wp l rho (d + 7) 49 121 [(2, 82), (0, 0), (0, 0), (0, 1), (0, 0), (0, 0)] [] h236 Q
                have tE254 : cs h223 = cs h := cs_eq (fun j => my_fr.at gh223 is_92 rfl) (my_fr.at gh223 is_82 rfl)
                rw [tE254] at xp239
                have ps255 : h223 82 7 = (sN (cs h) (h 82 7)) := xc231
                rw [ps255] at xp239
                have q2 : h223 82 2 = h 82 2 := my_fr.at frh223 is_82 rfl
                have q11 : h223 (h 82 2) 1 = h (h 82 2) 1 := my_fr.at frh223 n_Ln.2.2.2.1 rfl
                have q13 : h223 (h 82 2) 3 = h (h 82 2) 3 := my_fr.at frh223 n_Ln.2.2.2.1 rfl
                have q14 : h223 (h 82 2) 4 = h (h 82 2) 4 := my_fr.at frh223 n_Ln.2.2.2.1 rfl
                have q19 : h223 (h 82 2) 9 = h (h 82 2) 9 := my_fr.at frh223 n_Ln.2.2.2.1 rfl
                have qc : h223 2 = h 2 := funext (fun j => my_fr.at frh223 is_2 rfl)
                have zW := xp239
                simp only [q2, q11, q13, q14, q19, qc] at zW
                have Lo_h236t256 : Lo h h236 := Lo_tr Lo_h223 xp240
                refine w_goto (t := 140) gz_49_121 rfl ?_
                have psR : h236 82 7 = h236 82 7 := (rfl : h236 82 7 = h236 82 7)
                have npsR : cs h236 = cs h := cs_eq (fun j => my_fr.at gh236 is_92 rfl) (my_fr.at gh236 is_82 rfl)
                have c257 := (rfl : h236 82 9 = h236 82 9)
                exact w_vret gz_49_140 gm_49 (k0 h236 (gh236) (by omega) (by omega) (by first | exact Lo_h236t256 | exact ⟨st.1, st.2.1, st.2.2.2.2⟩ | exact Or.inl ⟨by omega, zF, st.2.2.1, st.2.2.2.1⟩ | exact Or.inr (Or.inr (Or.inl ⟨by omega, by omega, zC, st.2.2.1, st.2.2.2.1⟩)) | exact Or.inr (Or.inr (Or.inr (Or.inl ⟨by omega, by omega, zW, st.2.2.2.1⟩))) | exact Or.inr (Or.inr (Or.inr (Or.inr (Or.inl ⟨by omega, by omega, zJ, fun _ => st.2.2.1, st.2.2.2.1⟩)))) | exact Or.inr (Or.inr (Or.inr (Or.inr (Or.inr (Or.inl ⟨by omega, by omega, zS, st.2.2.1, st.2.2.2.1⟩))))) | exact ⟨_, _, _, Or.inl ⟨by omega, zF, rfl, rfl⟩⟩ | exact ⟨_, _, _, Or.inr (Or.inr (Or.inl ⟨by omega, by omega, zC, rfl, rfl⟩))⟩ | exact ⟨_, _, _, Or.inr (Or.inr (Or.inr (Or.inl ⟨by omega, by omega, zW, rfl⟩)))⟩ | exact ⟨_, _, _, Or.inr (Or.inr (Or.inr (Or.inr (Or.inl ⟨by omega, by omega, zJ, fun q => absurd q (by omega), rfl⟩))))⟩ | exact ⟨_, _, _, Or.inr (Or.inr (Or.inr (Or.inr (Or.inr (Or.inl ⟨by omega, by omega, zS, rfl, rfl⟩)))))⟩ | exact ⟨0, 0, 0, Or.inr (Or.inl ⟨by omega, by omega, by omega⟩)⟩ | exact ⟨0, 0, 0, Or.inr (Or.inr (Or.inr (Or.inr (Or.inr (Or.inr ⟨by omega, by omega, by omega, by omega, by omega, by omega⟩)))))⟩ | (exfalso; omega) | omega) (by first | exact Lo_h236t256 | exact ⟨st.1, st.2.1, st.2.2.2.2⟩ | exact Or.inl ⟨by omega, zF, st.2.2.1, st.2.2.2.1⟩ | exact Or.inr (Or.inr (Or.inl ⟨by omega, by omega, zC, st.2.2.1, st.2.2.2.1⟩)) | exact Or.inr (Or.inr (Or.inr (Or.inl ⟨by omega, by omega, zW, st.2.2.2.1⟩))) | exact Or.inr (Or.inr (Or.inr (Or.inr (Or.inl ⟨by omega, by omega, zJ, fun _ => st.2.2.1, st.2.2.2.1⟩)))) | exact Or.inr (Or.inr (Or.inr (Or.inr (Or.inr (Or.inl ⟨by omega, by omega, zS, st.2.2.1, st.2.2.2.1⟩))))) | exact ⟨_, _, _, Or.inl ⟨by omega, zF, rfl, rfl⟩⟩ | exact ⟨_, _, _, Or.inr (Or.inr (Or.inl ⟨by omega, by omega, zC, rfl, rfl⟩))⟩ | exact ⟨_, _, _, Or.inr (Or.inr (Or.inr (Or.inl ⟨by omega, by omega, zW, rfl⟩)))⟩ | exact ⟨_, _, _, Or.inr (Or.inr (Or.inr (Or.inr (Or.inl ⟨by omega, by omega, zJ, fun q => absurd q (by omega), rfl⟩))))⟩ | exact ⟨_, _, _, Or.inr (Or.inr (Or.inr (Or.inr (Or.inr (Or.inl ⟨by omega, by omega, zS, rfl, rfl⟩)))))⟩ | exact ⟨0, 0, 0, Or.inr (Or.inl ⟨by omega, by omega, by omega⟩)⟩ | exact ⟨0, 0, 0, Or.inr (Or.inr (Or.inr (Or.inr (Or.inr (Or.inr ⟨by omega, by omega, by omega, by omega, by omega, by omega⟩)))))⟩ | (exfalso; omega) | omega) Ln_h236t241 Sp_h236t242 Al_h236t243 Cu_h236t244)
              ·
                have gh245 : my_fr [(4, 4), (4, 5), (4, 6), (4, 7), (4, 8), (4, 9), (5, 5), (5, 6), (5, 7), (5, 8), (5, 9), (32, -1), (33, -1), (34, -1), (35, -1), (36, -1), (37, -1), (38, -1), (39, -1)] h h245 := my_fr.tr gh223 (frh245.mo rfl)
                show wp l rho (d + 7) 49 121 [(2, 82), (0, 0), (0, 0), (0, 1), (0, 0), (0, 0)] [] h245 Q
                have tE258 : cs h223 = cs h := cs_eq (fun j => my_fr.at gh223 is_92 rfl) (my_fr.at gh223 is_82 rfl)
                rw [tE258] at xp247
                have ps259 : h223 82 7 = (sN (cs h) (h 82 7)) := xc231
                rw [ps259] at xp247
                have q2 : h223 82 2 = h 82 2 := my_fr.at frh223 is_82 rfl
                have q11 : h223 (h 82 2) 1 = h (h 82 2) 1 := my_fr.at frh223 n_Ln.2.2.2.1 rfl
                have q13 : h223 (h 82 2) 3 = h (h 82 2) 3 := my_fr.at frh223 n_Ln.2.2.2.1 rfl
                have q14 : h223 (h 82 2) 4 = h (h 82 2) 4 := my_fr.at frh223 n_Ln.2.2.2.1 rfl
                have q19 : h223 (h 82 2) 9 = h (h 82 2) 9 := my_fr.at frh223 n_Ln.2.2.2.1 rfl
                have qc : h223 2 = h 2 := funext (fun j => my_fr.at frh223 is_2 rfl)
                have zW := xp247
                simp only [q2, q11, q13, q14, q19, qc] at zW
                have st := xp248
                unfold Std at st
                simp only [q2, q11, q13, q14, q19, qc] at st
                have Lo_h245t260 : Lo h h245 := Lo_tr Lo_h223 xp249
                refine w_goto (t := 140) gz_49_121 rfl ?_
                have psR : h245 82 7 = h245 82 7 := (rfl : h245 82 7 = h245 82 7)
                have npsR : cs h245 = cs h := cs_eq (fun j => my_fr.at gh245 is_92 rfl) (my_fr.at gh245 is_82 rfl)
                have c261 := w246
                exact w_vret gz_49_140 gm_49 (k1 h245 (gh245) (by omega) (by first | exact Lo_h245t260 | exact ⟨st.1, st.2.1, st.2.2.2.2⟩ | exact Or.inl ⟨by omega, zF, st.2.2.1, st.2.2.2.1⟩ | exact Or.inr (Or.inr (Or.inl ⟨by omega, by omega, zC, st.2.2.1, st.2.2.2.1⟩)) | exact Or.inr (Or.inr (Or.inr (Or.inl ⟨by omega, by omega, zW, st.2.2.2.1⟩))) | exact Or.inr (Or.inr (Or.inr (Or.inr (Or.inl ⟨by omega, by omega, zJ, fun _ => st.2.2.1, st.2.2.2.1⟩)))) | exact Or.inr (Or.inr (Or.inr (Or.inr (Or.inr (Or.inl ⟨by omega, by omega, zS, st.2.2.1, st.2.2.2.1⟩))))) | exact ⟨_, _, _, Or.inl ⟨by omega, zF, rfl, rfl⟩⟩ | exact ⟨_, _, _, Or.inr (Or.inr (Or.inl ⟨by omega, by omega, zC, rfl, rfl⟩))⟩ | exact ⟨_, _, _, Or.inr (Or.inr (Or.inr (Or.inl ⟨by omega, by omega, zW, rfl⟩)))⟩ | exact ⟨_, _, _, Or.inr (Or.inr (Or.inr (Or.inr (Or.inl ⟨by omega, by omega, zJ, fun q => absurd q (by omega), rfl⟩))))⟩ | exact ⟨_, _, _, Or.inr (Or.inr (Or.inr (Or.inr (Or.inr (Or.inl ⟨by omega, by omega, zS, rfl, rfl⟩)))))⟩ | exact ⟨0, 0, 0, Or.inr (Or.inl ⟨by omega, by omega, by omega⟩)⟩ | exact ⟨0, 0, 0, Or.inr (Or.inr (Or.inr (Or.inr (Or.inr (Or.inr ⟨by omega, by omega, by omega, by omega, by omega, by omega⟩)))))⟩ | (exfalso; omega) | omega) (by first | exact Lo_h245t260 | exact ⟨st.1, st.2.1, st.2.2.2.2⟩ | exact Or.inl ⟨by omega, zF, st.2.2.1, st.2.2.2.1⟩ | exact Or.inr (Or.inr (Or.inl ⟨by omega, by omega, zC, st.2.2.1, st.2.2.2.1⟩)) | exact Or.inr (Or.inr (Or.inr (Or.inl ⟨by omega, by omega, zW, st.2.2.2.1⟩))) | exact Or.inr (Or.inr (Or.inr (Or.inr (Or.inl ⟨by omega, by omega, zJ, fun _ => st.2.2.1, st.2.2.2.1⟩)))) | exact Or.inr (Or.inr (Or.inr (Or.inr (Or.inr (Or.inl ⟨by omega, by omega, zS, st.2.2.1, st.2.2.2.1⟩))))) | exact ⟨_, _, _, Or.inl ⟨by omega, zF, rfl, rfl⟩⟩ | exact ⟨_, _, _, Or.inr (Or.inr (Or.inl ⟨by omega, by omega, zC, rfl, rfl⟩))⟩ | exact ⟨_, _, _, Or.inr (Or.inr (Or.inr (Or.inl ⟨by omega, by omega, zW, rfl⟩)))⟩ | exact ⟨_, _, _, Or.inr (Or.inr (Or.inr (Or.inr (Or.inl ⟨by omega, by omega, zJ, fun q => absurd q (by omega), rfl⟩))))⟩ | exact ⟨_, _, _, Or.inr (Or.inr (Or.inr (Or.inr (Or.inr (Or.inl ⟨by omega, by omega, zS, rfl, rfl⟩)))))⟩ | exact ⟨0, 0, 0, Or.inr (Or.inl ⟨by omega, by omega, by omega⟩)⟩ | exact ⟨0, 0, 0, Or.inr (Or.inr (Or.inr (Or.inr (Or.inr (Or.inr ⟨by omega, by omega, by omega, by omega, by omega, by omega⟩)))))⟩ | (exfalso; omega) | omega) (by first | exact Lo_h245t260 | exact ⟨st.1, st.2.1, st.2.2.2.2⟩ | exact Or.inl ⟨by omega, zF, st.2.2.1, st.2.2.2.1⟩ | exact Or.inr (Or.inr (Or.inl ⟨by omega, by omega, zC, st.2.2.1, st.2.2.2.1⟩)) | exact Or.inr (Or.inr (Or.inr (Or.inl ⟨by omega, by omega, zW, st.2.2.2.1⟩))) | exact Or.inr (Or.inr (Or.inr (Or.inr (Or.inl ⟨by omega, by omega, zJ, fun _ => st.2.2.1, st.2.2.2.1⟩)))) | exact Or.inr (Or.inr (Or.inr (Or.inr (Or.inr (Or.inl ⟨by omega, by omega, zS, st.2.2.1, st.2.2.2.1⟩))))) | exact ⟨_, _, _, Or.inl ⟨by omega, zF, rfl, rfl⟩⟩ | exact ⟨_, _, _, Or.inr (Or.inr (Or.inl ⟨by omega, by omega, zC, rfl, rfl⟩))⟩ | exact ⟨_, _, _, Or.inr (Or.inr (Or.inr (Or.inl ⟨by omega, by omega, zW, rfl⟩)))⟩ | exact ⟨_, _, _, Or.inr (Or.inr (Or.inr (Or.inr (Or.inl ⟨by omega, by omega, zJ, fun q => absurd q (by omega), rfl⟩))))⟩ | exact ⟨_, _, _, Or.inr (Or.inr (Or.inr (Or.inr (Or.inr (Or.inl ⟨by omega, by omega, zS, rfl, rfl⟩)))))⟩ | exact ⟨0, 0, 0, Or.inr (Or.inl ⟨by omega, by omega, by omega⟩)⟩ | exact ⟨0, 0, 0, Or.inr (Or.inr (Or.inr (Or.inr (Or.inr (Or.inr ⟨by omega, by omega, by omega, by omega, by omega, by omega⟩)))))⟩ | (exfalso; omega) | omega) Ln_h245t250 Sp_h245t251 Al_h245t252 Cu_h245t253)
            ·
              refine w_aload_n gz_49_81 rfl ?_
              refine w_iconst gz_49_82 (by decide) ?_
              refine w_inv (k := 0) (as := [(0, 5)]) (r := []) (x := 82) (ls0 := [(2, 82), (0, 5)]) gz_49_83 gm_42 rfl is_82 rd_5 rfl rfl rfl rfl rfl ?_
              refine w_aload_n gz_42_0 rfl ?_
              refine v_getI (j := 9) gz_42_1 rfl is_82 rd_5 rfl (fun v262 ev262 pv262 qv262 => ?_)
              have zv262 := ev262.trans cf
              refine w_ifne (t := 20) gz_42_4 rfl (fun u263 => by exfalso; omega) (fun u263 => ?_)
              refine w_aload_n gz_42_7 rfl ?_
              refine w_iload_n gz_42_8 rfl ?_
              refine w_bipush gz_42_9 (by decide) ?_
              refine w_aload_n gz_42_11 rfl ?_
              refine v_getI (j := 7) gz_42_12 rfl is_82 rd_5 rfl (fun v264 ev264 pv264 qv264 => ?_)
              refine w_imul gz_42_15 ⟨by omega, by omega⟩ ?_
              refine w_iadd gz_42_16 ⟨by omega, by omega⟩ ?_
              refine v_putI (j := 9) gz_42_17 rfl is_82 rd_5 rfl (by omega) (by omega) rfl (fun h265 fh265 => ?_)
              have gh265 : my_fr [(4, 4), (4, 5), (4, 6), (4, 7), (4, 8), (4, 9), (5, 5), (5, 6), (5, 7), (5, 8), (5, 9), (32, -1), (33, -1), (34, -1), (35, -1), (36, -1), (37, -1), (38, -1), (39, -1)] h h265 := my_fr.up my_fr.rf is_82 fh265 rfl
              have Ln_h265 : Ln h265 := Ln_ag (my_ag.up fh265 is_82 rfl) n_Ln
              have Sp_h265 : Sp h265 wv := Sp_ag (my_ag.up fh265 is_82 rfl) hwv n_Ln n_Sp
              have Al_h265 : Al h265 := Al_ag (my_ag.up fh265 is_82 rfl) n_Al
              have Cu_h265 : Cu h265 := Cu_ag (my_ag.up fh265 is_82 rfl) n_Cu
              have Lo_h265 : Lo h h265 := Lo_ag (my_ag.up fh265 is_82 rfl) n_Ln (Lo_rf)
              refine w_vret gz_42_20 gm_42 ?_
              show wp l rho (d + 7) 49 86 [(2, 82), (0, 0), (0, 0), (0, 1), (0, 0), (0, 0)] [] h265 Q
              have psR : h265 82 7 = h 82 7 := ((my_up_fld fh265 (by decide)).trans (rfl : h 82 7 = h 82 7))
              have npsR : cs h265 = cs h := cs_eq (fun j => my_fr.at gh265 is_92 rfl) (my_fr.at gh265 is_82 rfl)
              have c266 := (my_up_self fh265)
              exact w_vret gz_49_86 gm_49 (k0 h265 (gh265) (by omega) (by omega) (by first | exact Lo_h265 | exact ⟨st.1, st.2.1, st.2.2.2.2⟩ | exact Or.inl ⟨by omega, zF, st.2.2.1, st.2.2.2.1⟩ | exact Or.inr (Or.inr (Or.inl ⟨by omega, by omega, zC, st.2.2.1, st.2.2.2.1⟩)) | exact Or.inr (Or.inr (Or.inr (Or.inl ⟨by omega, by omega, zW, st.2.2.2.1⟩))) | exact Or.inr (Or.inr (Or.inr (Or.inr (Or.inl ⟨by omega, by omega, zJ, fun _ => st.2.2.1, st.2.2.2.1⟩)))) | exact Or.inr (Or.inr (Or.inr (Or.inr (Or.inr (Or.inl ⟨by omega, by omega, zS, st.2.2.1, st.2.2.2.1⟩))))) | exact ⟨_, _, _, Or.inl ⟨by omega, zF, rfl, rfl⟩⟩ | exact ⟨_, _, _, Or.inr (Or.inr (Or.inl ⟨by omega, by omega, zC, rfl, rfl⟩))⟩ | exact ⟨_, _, _, Or.inr (Or.inr (Or.inr (Or.inl ⟨by omega, by omega, zW, rfl⟩)))⟩ | exact ⟨_, _, _, Or.inr (Or.inr (Or.inr (Or.inr (Or.inl ⟨by omega, by omega, zJ, fun q => absurd q (by omega), rfl⟩))))⟩ | exact ⟨_, _, _, Or.inr (Or.inr (Or.inr (Or.inr (Or.inr (Or.inl ⟨by omega, by omega, zS, rfl, rfl⟩)))))⟩ | exact ⟨0, 0, 0, Or.inr (Or.inl ⟨by omega, by omega, by omega⟩)⟩ | exact ⟨0, 0, 0, Or.inr (Or.inr (Or.inr (Or.inr (Or.inr (Or.inr ⟨by omega, by omega, by omega, by omega, by omega, by omega⟩)))))⟩ | (exfalso; omega) | omega) (by first | exact Lo_h265 | exact ⟨st.1, st.2.1, st.2.2.2.2⟩ | exact Or.inl ⟨by omega, zF, st.2.2.1, st.2.2.2.1⟩ | exact Or.inr (Or.inr (Or.inl ⟨by omega, by omega, zC, st.2.2.1, st.2.2.2.1⟩)) | exact Or.inr (Or.inr (Or.inr (Or.inl ⟨by omega, by omega, zW, st.2.2.2.1⟩))) | exact Or.inr (Or.inr (Or.inr (Or.inr (Or.inl ⟨by omega, by omega, zJ, fun _ => st.2.2.1, st.2.2.2.1⟩)))) | exact Or.inr (Or.inr (Or.inr (Or.inr (Or.inr (Or.inl ⟨by omega, by omega, zS, st.2.2.1, st.2.2.2.1⟩))))) | exact ⟨_, _, _, Or.inl ⟨by omega, zF, rfl, rfl⟩⟩ | exact ⟨_, _, _, Or.inr (Or.inr (Or.inl ⟨by omega, by omega, zC, rfl, rfl⟩))⟩ | exact ⟨_, _, _, Or.inr (Or.inr (Or.inr (Or.inl ⟨by omega, by omega, zW, rfl⟩)))⟩ | exact ⟨_, _, _, Or.inr (Or.inr (Or.inr (Or.inr (Or.inl ⟨by omega, by omega, zJ, fun q => absurd q (by omega), rfl⟩))))⟩ | exact ⟨_, _, _, Or.inr (Or.inr (Or.inr (Or.inr (Or.inr (Or.inl ⟨by omega, by omega, zS, rfl, rfl⟩)))))⟩ | exact ⟨0, 0, 0, Or.inr (Or.inl ⟨by omega, by omega, by omega⟩)⟩ | exact ⟨0, 0, 0, Or.inr (Or.inr (Or.inr (Or.inr (Or.inr (Or.inr ⟨by omega, by omega, by omega, by omega, by omega, by omega⟩)))))⟩ | (exfalso; omega) | omega) Ln_h265 Sp_h265 Al_h265 Cu_h265)
          ·
            show wp l rho (d + 7) 49 35 [(2, 82), (0, 0), (0, 0), (0, 1), (0, 0), (9, 0)] [(0, 1)] h Q
            rw [show wc ((8 : Nat) : Int) = 26801 from by decide] at xp214
            refine w_istore (ls' := [(2, 82), (0, 0), (0, 0), (0, 1), (0, 0), (0, 1)]) gz_49_35 gm_49 rfl rfl rfl ?_
            refine w_iload_n gz_49_37 rfl ?_
            refine w_ifne (t := 65) gz_49_38 rfl (fun u267 => by exfalso; omega) (fun u267 => ?_)
            refine w_iload_n gz_49_41 rfl ?_
            refine w_ifne (t := 65) gz_49_42 rfl (fun u268 => by exfalso; omega) (fun u268 => ?_)
            refine w_iload_n gz_49_45 rfl ?_
            refine w_ifne (t := 65) gz_49_46 rfl (fun u269 => ?_) (fun u269 => by exfalso; omega)
            refine w_iload_n gz_49_65 rfl ?_
            refine w_ifne (t := 87) gz_49_66 rfl (fun u270 => by exfalso; omega) (fun u270 => ?_)
            refine w_aload_n gz_49_69 rfl ?_
            refine v_getR (j := 2) gz_49_70 rfl is_82 rd_5 rfl (fun v271 ev271 tv271 => ?_)
            have sE73 : v271 = h 82 2 := by first | assumption | omega
            refine v_getI (j := 9) gz_49_73 rfl tv271 rd_4 rfl (fun v272 ev272 pv272 qv272 => ?_)
            have c76 : v272 = h (h 82 2) 9 := by rw [← sE73]; omega
            refine w_bipush gz_49_76 (by decide) ?_
            refine w_iclt (t := 87) gz_49_78 rfl (fun u273 => ?_) (fun u273 => ?_)
            ·
              have St5_ht274 : St5 h := ⟨by subst_vars; omega, by subst_vars; omega⟩
              refine w_aload_n gz_49_87 rfl ?_
              refine w_inv (k := 2) (as := []) (r := []) (x := 82) (ls0 := [(2, 82), (9, 0), (9, 0)]) gz_49_88 gm_37 rfl is_82 rd_5 rfl rfl rfl rfl rfl (c_Reader_nextToken9_f0 (d := (d + 5))  (cf.trans (by omega)) n_Al (fun h275 frh275 w276 w277 w278 xp279 xp280 Al_h275t281 Cu_h275t282 => ?_))
              have gh275 : my_fr [(4, 4), (4, 5), (4, 6), (4, 7), (4, 8), (4, 9), (5, 5), (5, 6), (5, 7), (5, 8), (5, 9), (32, -1), (33, -1), (34, -1), (35, -1), (36, -1), (37, -1), (38, -1), (39, -1)] h h275 := my_fr.tr my_fr.rf (frh275.mo rfl)
              have Ln_h275 : Ln h275 := Ln_ag (my_ag.fr frh275 rfl) n_Ln
              have Sp_h275 : Sp h275 wv := Sp_ag (my_ag.fr frh275 rfl) hwv n_Ln n_Sp
              have Lo_h275 : Lo h h275 := Lo_ag (my_ag.fr frh275 rfl) n_Ln (Lo_rf)
              have St5_h275 : St5 h275 := St5_ag (my_ag.fr frh275 rfl) n_Ln St5_ht274
              show wp l rho (d + 7) 49 91 [(2, 82), (0, 0), (0, 0), (0, 1), (0, 0), (0, 1)] [] h275 Q
              have xc283 := xp279 n_Cu
              have ck284 := Cu_s Cu_h275t282
              rw [show cs h275 = cs h from cs_eq (fun j => my_fr.at gh275 is_92 rfl) (my_fr.at gh275 is_82 rfl)] at ck284
              rw [show h275 82 7 = (sN (cs h) (h 82 7)) from xc283] at ck284
              refine w_iload_n gz_49_91 rfl ?_
              refine w_ifeq (t := 102) gz_49_92 rfl (fun u285 => ?_) (fun u285 => by exfalso; omega)
              refine w_iload_n gz_49_102 rfl ?_
              refine w_ifeq (t := 113) gz_49_103 rfl (fun u286 => ?_) (fun u286 => by exfalso; omega)
              refine w_iload_n gz_49_113 rfl ?_
              refine w_ifeq (t := 124) gz_49_114 rfl (fun u287 => by exfalso; omega) (fun u287 => ?_)
              refine w_aload_n gz_49_117 rfl ?_
              refine w_inv (k := 2) (as := []) (r := []) (x := 82) (ls0 := [(2, 82), (9, 0), (9, 0)]) gz_49_118 gm_56 rfl is_82 rd_5 rfl rfl rfl rfl rfl (c_Reader_readFew9_f0 (d := (d + 4))  (wv := wv) (((my_fr.at frh275 is_82 rfl).trans cf).trans (by omega)) (by first | assumption | omega) (by first | assumption | omega) Ln_h275 Sp_h275 St5_h275 Al_h275t281 Cu_h275t282 (fun h288 frh288 w289 w290 xp291 xp292 Ln_h288t293 Sp_h288t294 Al_h288t295 Cu_h288t296 => ?_) (fun h297 frh297 w298 xp299 xp300 xp301 Ln_h297t302 Sp_h297t303 Al_h297t304 Cu_h297t305 => ?_))
              ·
                have gh288 : my_fr [(4, 4), (4, 5), (4, 6), (4, 7), (4, 8), (4, 9), (5, 5), (5, 6), (5, 7), (5, 8), (5, 9), (32, -1), (33, -1), (34, -1), (35, -1), (36, -1), (37, -1), (38, -1), (39, -1)] h h288 := my_fr.tr gh275 (frh288.mo rfl)
                show wp l rho (d + 7) 49 121 [(2, 82), (0, 0), (0, 0), (0, 1), (0, 0), (0, 1)] [] h288 Q
                have tE306 : cs h275 = cs h := cs_eq (fun j => my_fr.at gh275 is_92 rfl) (my_fr.at gh275 is_82 rfl)
                rw [tE306] at xp291
                have ps307 : h275 82 7 = (sN (cs h) (h 82 7)) := xc283
                rw [ps307] at xp291
                have q2 : h275 82 2 = h 82 2 := my_fr.at frh275 is_82 rfl
                have q11 : h275 (h 82 2) 1 = h (h 82 2) 1 := my_fr.at frh275 n_Ln.2.2.2.1 rfl
                have q13 : h275 (h 82 2) 3 = h (h 82 2) 3 := my_fr.at frh275 n_Ln.2.2.2.1 rfl
                have q14 : h275 (h 82 2) 4 = h (h 82 2) 4 := my_fr.at frh275 n_Ln.2.2.2.1 rfl
                have q19 : h275 (h 82 2) 9 = h (h 82 2) 9 := my_fr.at frh275 n_Ln.2.2.2.1 rfl
                have qc : h275 2 = h 2 := funext (fun j => my_fr.at frh275 is_2 rfl)
                have zW := xp291
                simp only [q2, q11, q13, q14, q19, qc] at zW
                have Lo_h288t308 : Lo h h288 := Lo_tr Lo_h275 xp292
                refine w_goto (t := 140) gz_49_121 rfl ?_
                have psR : h288 82 7 = h288 82 7 := (rfl : h288 82 7 = h288 82 7)
                have npsR : cs h288 = cs h := cs_eq (fun j => my_fr.at gh288 is_92 rfl) (my_fr.at gh288 is_82 rfl)
                have c309 := (rfl : h288 82 9 = h288 82 9)
                exact w_vret gz_49_140 gm_49 (k0 h288 (gh288) (by omega) (by omega) (by first | exact Lo_h288t308 | exact ⟨st.1, st.2.1, st.2.2.2.2⟩ | exact Or.inl ⟨by omega, zF, st.2.2.1, st.2.2.2.1⟩ | exact Or.inr (Or.inr (Or.inl ⟨by omega, by omega, zC, st.2.2.1, st.2.2.2.1⟩)) | exact Or.inr (Or.inr (Or.inr (Or.inl ⟨by omega, by omega, zW, st.2.2.2.1⟩))) | exact Or.inr (Or.inr (Or.inr (Or.inr (Or.inl ⟨by omega, by omega, zJ, fun _ => st.2.2.1, st.2.2.2.1⟩)))) | exact Or.inr (Or.inr (Or.inr (Or.inr (Or.inr (Or.inl ⟨by omega, by omega, zS, st.2.2.1, st.2.2.2.1⟩))))) | exact ⟨_, _, _, Or.inl ⟨by omega, zF, rfl, rfl⟩⟩ | exact ⟨_, _, _, Or.inr (Or.inr (Or.inl ⟨by omega, by omega, zC, rfl, rfl⟩))⟩ | exact ⟨_, _, _, Or.inr (Or.inr (Or.inr (Or.inl ⟨by omega, by omega, zW, rfl⟩)))⟩ | exact ⟨_, _, _, Or.inr (Or.inr (Or.inr (Or.inr (Or.inl ⟨by omega, by omega, zJ, fun q => absurd q (by omega), rfl⟩))))⟩ | exact ⟨_, _, _, Or.inr (Or.inr (Or.inr (Or.inr (Or.inr (Or.inl ⟨by omega, by omega, zS, rfl, rfl⟩)))))⟩ | exact ⟨0, 0, 0, Or.inr (Or.inl ⟨by omega, by omega, by omega⟩)⟩ | exact ⟨0, 0, 0, Or.inr (Or.inr (Or.inr (Or.inr (Or.inr (Or.inr ⟨by omega, by omega, by omega, by omega, by omega, by omega⟩)))))⟩ | (exfalso; omega) | omega) (by first | exact Lo_h288t308 | exact ⟨st.1, st.2.1, st.2.2.2.2⟩ | exact Or.inl ⟨by omega, zF, st.2.2.1, st.2.2.2.1⟩ | exact Or.inr (Or.inr (Or.inl ⟨by omega, by omega, zC, st.2.2.1, st.2.2.2.1⟩)) | exact Or.inr (Or.inr (Or.inr (Or.inl ⟨by omega, by omega, zW, st.2.2.2.1⟩))) | exact Or.inr (Or.inr (Or.inr (Or.inr (Or.inl ⟨by omega, by omega, zJ, fun _ => st.2.2.1, st.2.2.2.1⟩)))) | exact Or.inr (Or.inr (Or.inr (Or.inr (Or.inr (Or.inl ⟨by omega, by omega, zS, st.2.2.1, st.2.2.2.1⟩))))) | exact ⟨_, _, _, Or.inl ⟨by omega, zF, rfl, rfl⟩⟩ | exact ⟨_, _, _, Or.inr (Or.inr (Or.inl ⟨by omega, by omega, zC, rfl, rfl⟩))⟩ | exact ⟨_, _, _, Or.inr (Or.inr (Or.inr (Or.inl ⟨by omega, by omega, zW, rfl⟩)))⟩ | exact ⟨_, _, _, Or.inr (Or.inr (Or.inr (Or.inr (Or.inl ⟨by omega, by omega, zJ, fun q => absurd q (by omega), rfl⟩))))⟩ | exact ⟨_, _, _, Or.inr (Or.inr (Or.inr (Or.inr (Or.inr (Or.inl ⟨by omega, by omega, zS, rfl, rfl⟩)))))⟩ | exact ⟨0, 0, 0, Or.inr (Or.inl ⟨by omega, by omega, by omega⟩)⟩ | exact ⟨0, 0, 0, Or.inr (Or.inr (Or.inr (Or.inr (Or.inr (Or.inr ⟨by omega, by omega, by omega, by omega, by omega, by omega⟩)))))⟩ | (exfalso; omega) | omega) Ln_h288t293 Sp_h288t294 Al_h288t295 Cu_h288t296)
              ·
                have gh297 : my_fr [(4, 4), (4, 5), (4, 6), (4, 7), (4, 8), (4, 9), (5, 5), (5, 6), (5, 7), (5, 8), (5, 9), (32, -1), (33, -1), (34, -1), (35, -1), (36, -1), (37, -1), (38, -1), (39, -1)] h h297 := my_fr.tr gh275 (frh297.mo rfl)
                show wp l rho (d + 7) 49 121 [(2, 82), (0, 0), (0, 0), (0, 1), (0, 0), (0, 1)] [] h297 Q
                have tE310 : cs h275 = cs h := cs_eq (fun j => my_fr.at gh275 is_92 rfl) (my_fr.at gh275 is_82 rfl)
                rw [tE310] at xp299
                have ps311 : h275 82 7 = (sN (cs h) (h 82 7)) := xc283
                rw [ps311] at xp299
                have q2 : h275 82 2 = h 82 2 := my_fr.at frh275 is_82 rfl
                have q11 : h275 (h 82 2) 1 = h (h 82 2) 1 := my_fr.at frh275 n_Ln.2.2.2.1 rfl
                have q13 : h275 (h 82 2) 3 = h (h 82 2) 3 := my_fr.at frh275 n_Ln.2.2.2.1 rfl
                have q14 : h275 (h 82 2) 4 = h (h 82 2) 4 := my_fr.at frh275 n_Ln.2.2.2.1 rfl
                have q19 : h275 (h 82 2) 9 = h (h 82 2) 9 := my_fr.at frh275 n_Ln.2.2.2.1 rfl
                have qc : h275 2 = h 2 := funext (fun j => my_fr.at frh275 is_2 rfl)
                have zW := xp299
                simp only [q2, q11, q13, q14, q19, qc] at zW
                have st := xp300
                unfold Std at st
                simp only [q2, q11, q13, q14, q19, qc] at st
                have Lo_h297t312 : Lo h h297 := Lo_tr Lo_h275 xp301
                refine w_goto (t := 140) gz_49_121 rfl ?_
                have psR : h297 82 7 = h297 82 7 := (rfl : h297 82 7 = h297 82 7)
                have npsR : cs h297 = cs h := cs_eq (fun j => my_fr.at gh297 is_92 rfl) (my_fr.at gh297 is_82 rfl)
                have c313 := w298
                exact w_vret gz_49_140 gm_49 (k1 h297 (gh297) (by omega) (by first | exact Lo_h297t312 | exact ⟨st.1, st.2.1, st.2.2.2.2⟩ | exact Or.inl ⟨by omega, zF, st.2.2.1, st.2.2.2.1⟩ | exact Or.inr (Or.inr (Or.inl ⟨by omega, by omega, zC, st.2.2.1, st.2.2.2.1⟩)) | exact Or.inr (Or.inr (Or.inr (Or.inl ⟨by omega, by omega, zW, st.2.2.2.1⟩))) | exact Or.inr (Or.inr (Or.inr (Or.inr (Or.inl ⟨by omega, by omega, zJ, fun _ => st.2.2.1, st.2.2.2.1⟩)))) | exact Or.inr (Or.inr (Or.inr (Or.inr (Or.inr (Or.inl ⟨by omega, by omega, zS, st.2.2.1, st.2.2.2.1⟩))))) | exact ⟨_, _, _, Or.inl ⟨by omega, zF, rfl, rfl⟩⟩ | exact ⟨_, _, _, Or.inr (Or.inr (Or.inl ⟨by omega, by omega, zC, rfl, rfl⟩))⟩ | exact ⟨_, _, _, Or.inr (Or.inr (Or.inr (Or.inl ⟨by omega, by omega, zW, rfl⟩)))⟩ | exact ⟨_, _, _, Or.inr (Or.inr (Or.inr (Or.inr (Or.inl ⟨by omega, by omega, zJ, fun q => absurd q (by omega), rfl⟩))))⟩ | exact ⟨_, _, _, Or.inr (Or.inr (Or.inr (Or.inr (Or.inr (Or.inl ⟨by omega, by omega, zS, rfl, rfl⟩)))))⟩ | exact ⟨0, 0, 0, Or.inr (Or.inl ⟨by omega, by omega, by omega⟩)⟩ | exact ⟨0, 0, 0, Or.inr (Or.inr (Or.inr (Or.inr (Or.inr (Or.inr ⟨by omega, by omega, by omega, by omega, by omega, by omega⟩)))))⟩ | (exfalso; omega) | omega) (by first | exact Lo_h297t312 | exact ⟨st.1, st.2.1, st.2.2.2.2⟩ | exact Or.inl ⟨by omega, zF, st.2.2.1, st.2.2.2.1⟩ | exact Or.inr (Or.inr (Or.inl ⟨by omega, by omega, zC, st.2.2.1, st.2.2.2.1⟩)) | exact Or.inr (Or.inr (Or.inr (Or.inl ⟨by omega, by omega, zW, st.2.2.2.1⟩))) | exact Or.inr (Or.inr (Or.inr (Or.inr (Or.inl ⟨by omega, by omega, zJ, fun _ => st.2.2.1, st.2.2.2.1⟩)))) | exact Or.inr (Or.inr (Or.inr (Or.inr (Or.inr (Or.inl ⟨by omega, by omega, zS, st.2.2.1, st.2.2.2.1⟩))))) | exact ⟨_, _, _, Or.inl ⟨by omega, zF, rfl, rfl⟩⟩ | exact ⟨_, _, _, Or.inr (Or.inr (Or.inl ⟨by omega, by omega, zC, rfl, rfl⟩))⟩ | exact ⟨_, _, _, Or.inr (Or.inr (Or.inr (Or.inl ⟨by omega, by omega, zW, rfl⟩)))⟩ | exact ⟨_, _, _, Or.inr (Or.inr (Or.inr (Or.inr (Or.inl ⟨by omega, by omega, zJ, fun q => absurd q (by omega), rfl⟩))))⟩ | exact ⟨_, _, _, Or.inr (Or.inr (Or.inr (Or.inr (Or.inr (Or.inl ⟨by omega, by omega, zS, rfl, rfl⟩)))))⟩ | exact ⟨0, 0, 0, Or.inr (Or.inl ⟨by omega, by omega, by omega⟩)⟩ | exact ⟨0, 0, 0, Or.inr (Or.inr (Or.inr (Or.inr (Or.inr (Or.inr ⟨by omega, by omega, by omega, by omega, by omega, by omega⟩)))))⟩ | (exfalso; omega) | omega) (by first | exact Lo_h297t312 | exact ⟨st.1, st.2.1, st.2.2.2.2⟩ | exact Or.inl ⟨by omega, zF, st.2.2.1, st.2.2.2.1⟩ | exact Or.inr (Or.inr (Or.inl ⟨by omega, by omega, zC, st.2.2.1, st.2.2.2.1⟩)) | exact Or.inr (Or.inr (Or.inr (Or.inl ⟨by omega, by omega, zW, st.2.2.2.1⟩))) | exact Or.inr (Or.inr (Or.inr (Or.inr (Or.inl ⟨by omega, by omega, zJ, fun _ => st.2.2.1, st.2.2.2.1⟩)))) | exact Or.inr (Or.inr (Or.inr (Or.inr (Or.inr (Or.inl ⟨by omega, by omega, zS, st.2.2.1, st.2.2.2.1⟩))))) | exact ⟨_, _, _, Or.inl ⟨by omega, zF, rfl, rfl⟩⟩ | exact ⟨_, _, _, Or.inr (Or.inr (Or.inl ⟨by omega, by omega, zC, rfl, rfl⟩))⟩ | exact ⟨_, _, _, Or.inr (Or.inr (Or.inr (Or.inl ⟨by omega, by omega, zW, rfl⟩)))⟩ | exact ⟨_, _, _, Or.inr (Or.inr (Or.inr (Or.inr (Or.inl ⟨by omega, by omega, zJ, fun q => absurd q (by omega), rfl⟩))))⟩ | exact ⟨_, _, _, Or.inr (Or.inr (Or.inr (Or.inr (Or.inr (Or.inl ⟨by omega, by omega, zS, rfl, rfl⟩)))))⟩ | exact ⟨0, 0, 0, Or.inr (Or.inl ⟨by omega, by omega, by omega⟩)⟩ | exact ⟨0, 0, 0, Or.inr (Or.inr (Or.inr (Or.inr (Or.inr (Or.inr ⟨by omega, by omega, by omega, by omega, by omega, by omega⟩)))))⟩ | (exfalso; omega) | omega) Ln_h297t302 Sp_h297t303 Al_h297t304 Cu_h297t305)
            ·
              refine w_aload_n gz_49_81 rfl ?_
              refine w_iconst gz_49_82 (by decide) ?_
              refine w_inv (k := 0) (as := [(0, 5)]) (r := []) (x := 82) (ls0 := [(2, 82), (0, 5)]) gz_49_83 gm_42 rfl is_82 rd_5 rfl rfl rfl rfl rfl ?_
              refine w_aload_n gz_42_0 rfl ?_
              refine v_getI (j := 9) gz_42_1 rfl is_82 rd_5 rfl (fun v314 ev314 pv314 qv314 => ?_)
              have zv314 := ev314.trans cf
              refine w_ifne (t := 20) gz_42_4 rfl (fun u315 => by exfalso; omega) (fun u315 => ?_)
              refine w_aload_n gz_42_7 rfl ?_
              refine w_iload_n gz_42_8 rfl ?_
              refine w_bipush gz_42_9 (by decide) ?_
              refine w_aload_n gz_42_11 rfl ?_
              refine v_getI (j := 7) gz_42_12 rfl is_82 rd_5 rfl (fun v316 ev316 pv316 qv316 => ?_)
              refine w_imul gz_42_15 ⟨by omega, by omega⟩ ?_
              refine w_iadd gz_42_16 ⟨by omega, by omega⟩ ?_
              refine v_putI (j := 9) gz_42_17 rfl is_82 rd_5 rfl (by omega) (by omega) rfl (fun h317 fh317 => ?_)
              have gh317 : my_fr [(4, 4), (4, 5), (4, 6), (4, 7), (4, 8), (4, 9), (5, 5), (5, 6), (5, 7), (5, 8), (5, 9), (32, -1), (33, -1), (34, -1), (35, -1), (36, -1), (37, -1), (38, -1), (39, -1)] h h317 := my_fr.up my_fr.rf is_82 fh317 rfl
              have Ln_h317 : Ln h317 := Ln_ag (my_ag.up fh317 is_82 rfl) n_Ln
              have Sp_h317 : Sp h317 wv := Sp_ag (my_ag.up fh317 is_82 rfl) hwv n_Ln n_Sp
              have Al_h317 : Al h317 := Al_ag (my_ag.up fh317 is_82 rfl) n_Al
              have Cu_h317 : Cu h317 := Cu_ag (my_ag.up fh317 is_82 rfl) n_Cu
              have Lo_h317 : Lo h h317 := Lo_ag (my_ag.up fh317 is_82 rfl) n_Ln (Lo_rf)
              refine w_vret gz_42_20 gm_42 ?_
              show wp l rho (d + 7) 49 86 [(2, 82), (0, 0), (0, 0), (0, 1), (0, 0), (0, 1)] [] h317 Q
              have psR : h317 82 7 = h 82 7 := ((my_up_fld fh317 (by decide)).trans (rfl : h 82 7 = h 82 7))
              have npsR : cs h317 = cs h := cs_eq (fun j => my_fr.at gh317 is_92 rfl) (my_fr.at gh317 is_82 rfl)
              have c318 := (my_up_self fh317)
              exact w_vret gz_49_86 gm_49 (k0 h317 (gh317) (by omega) (by omega) (by first | exact Lo_h317 | exact ⟨st.1, st.2.1, st.2.2.2.2⟩ | exact Or.inl ⟨by omega, zF, st.2.2.1, st.2.2.2.1⟩ | exact Or.inr (Or.inr (Or.inl ⟨by omega, by omega, zC, st.2.2.1, st.2.2.2.1⟩)) | exact Or.inr (Or.inr (Or.inr (Or.inl ⟨by omega, by omega, zW, st.2.2.2.1⟩))) | exact Or.inr (Or.inr (Or.inr (Or.inr (Or.inl ⟨by omega, by omega, zJ, fun _ => st.2.2.1, st.2.2.2.1⟩)))) | exact Or.inr (Or.inr (Or.inr (Or.inr (Or.inr (Or.inl ⟨by omega, by omega, zS, st.2.2.1, st.2.2.2.1⟩))))) | exact ⟨_, _, _, Or.inl ⟨by omega, zF, rfl, rfl⟩⟩ | exact ⟨_, _, _, Or.inr (Or.inr (Or.inl ⟨by omega, by omega, zC, rfl, rfl⟩))⟩ | exact ⟨_, _, _, Or.inr (Or.inr (Or.inr (Or.inl ⟨by omega, by omega, zW, rfl⟩)))⟩ | exact ⟨_, _, _, Or.inr (Or.inr (Or.inr (Or.inr (Or.inl ⟨by omega, by omega, zJ, fun q => absurd q (by omega), rfl⟩))))⟩ | exact ⟨_, _, _, Or.inr (Or.inr (Or.inr (Or.inr (Or.inr (Or.inl ⟨by omega, by omega, zS, rfl, rfl⟩)))))⟩ | exact ⟨0, 0, 0, Or.inr (Or.inl ⟨by omega, by omega, by omega⟩)⟩ | exact ⟨0, 0, 0, Or.inr (Or.inr (Or.inr (Or.inr (Or.inr (Or.inr ⟨by omega, by omega, by omega, by omega, by omega, by omega⟩)))))⟩ | (exfalso; omega) | omega) (by first | exact Lo_h317 | exact ⟨st.1, st.2.1, st.2.2.2.2⟩ | exact Or.inl ⟨by omega, zF, st.2.2.1, st.2.2.2.1⟩ | exact Or.inr (Or.inr (Or.inl ⟨by omega, by omega, zC, st.2.2.1, st.2.2.2.1⟩)) | exact Or.inr (Or.inr (Or.inr (Or.inl ⟨by omega, by omega, zW, st.2.2.2.1⟩))) | exact Or.inr (Or.inr (Or.inr (Or.inr (Or.inl ⟨by omega, by omega, zJ, fun _ => st.2.2.1, st.2.2.2.1⟩)))) | exact Or.inr (Or.inr (Or.inr (Or.inr (Or.inr (Or.inl ⟨by omega, by omega, zS, st.2.2.1, st.2.2.2.1⟩))))) | exact ⟨_, _, _, Or.inl ⟨by omega, zF, rfl, rfl⟩⟩ | exact ⟨_, _, _, Or.inr (Or.inr (Or.inl ⟨by omega, by omega, zC, rfl, rfl⟩))⟩ | exact ⟨_, _, _, Or.inr (Or.inr (Or.inr (Or.inl ⟨by omega, by omega, zW, rfl⟩)))⟩ | exact ⟨_, _, _, Or.inr (Or.inr (Or.inr (Or.inr (Or.inl ⟨by omega, by omega, zJ, fun q => absurd q (by omega), rfl⟩))))⟩ | exact ⟨_, _, _, Or.inr (Or.inr (Or.inr (Or.inr (Or.inr (Or.inl ⟨by omega, by omega, zS, rfl, rfl⟩)))))⟩ | exact ⟨0, 0, 0, Or.inr (Or.inl ⟨by omega, by omega, by omega⟩)⟩ | exact ⟨0, 0, 0, Or.inr (Or.inr (Or.inr (Or.inr (Or.inr (Or.inr ⟨by omega, by omega, by omega, by omega, by omega, by omega⟩)))))⟩ | (exfalso; omega) | omega) Ln_h317 Sp_h317 Al_h317 Cu_h317)
        ·
          show wp l rho (d + 7) 49 27 [(2, 82), (0, 0), (0, 0), (0, 1), (9, 0), (9, 0)] [(0, 1)] h Q
          rw [show wc ((7 : Nat) : Int) = 527412 from by decide] at xp209
          refine w_istore (ls' := [(2, 82), (0, 0), (0, 0), (0, 1), (0, 1), (9, 0)]) gz_49_27 gm_49 rfl rfl rfl ?_
          refine w_aload_n gz_49_29 rfl ?_
          refine w_ldcS gz_49_30 (by decide) ?_
          refine w_inv (k := 1) (as := [(3, ((8 : Nat) : Int))]) (r := []) (x := 82) (ls0 := [(2, 82), (3, ((8 : Nat) : Int)), (9, 0)]) gz_49_32 gm_41 rfl is_82 rd_5 rfl rfl rfl rfl rfl (c_Reader_isWord9_f0 (d := (d + 2)) (x1 := ((8 : Nat) : Int)) (by decide) (cf.trans (by omega)) n_Cu (fun w319 xp320 => ?_) (fun w321 w322 xp323 => ?_))
          ·
            show wp l rho (d + 7) 49 35 [(2, 82), (0, 0), (0, 0), (0, 1), (0, 1), (9, 0)] [(0, 0)] h Q
            rw [show wc ((8 : Nat) : Int) = 26801 from by decide] at xp320
            refine w_istore (ls' := [(2, 82), (0, 0), (0, 0), (0, 1), (0, 1), (0, 0)]) gz_49_35 gm_49 rfl rfl rfl ?_
            refine w_iload_n gz_49_37 rfl ?_
            refine w_ifne (t := 65) gz_49_38 rfl (fun u324 => by exfalso; omega) (fun u324 => ?_)
            refine w_iload_n gz_49_41 rfl ?_
            refine w_ifne (t := 65) gz_49_42 rfl (fun u325 => by exfalso; omega) (fun u325 => ?_)
            refine w_iload_n gz_49_45 rfl ?_
            refine w_ifne (t := 65) gz_49_46 rfl (fun u326 => ?_) (fun u326 => by exfalso; omega)
            refine w_iload_n gz_49_65 rfl ?_
            refine w_ifne (t := 87) gz_49_66 rfl (fun u327 => by exfalso; omega) (fun u327 => ?_)
            refine w_aload_n gz_49_69 rfl ?_
            refine v_getR (j := 2) gz_49_70 rfl is_82 rd_5 rfl (fun v328 ev328 tv328 => ?_)
            have sE73 : v328 = h 82 2 := by first | assumption | omega
            refine v_getI (j := 9) gz_49_73 rfl tv328 rd_4 rfl (fun v329 ev329 pv329 qv329 => ?_)
            have c76 : v329 = h (h 82 2) 9 := by rw [← sE73]; omega
            refine w_bipush gz_49_76 (by decide) ?_
            refine w_iclt (t := 87) gz_49_78 rfl (fun u330 => ?_) (fun u330 => ?_)
            ·
              have St5_ht331 : St5 h := ⟨by subst_vars; omega, by subst_vars; omega⟩
              refine w_aload_n gz_49_87 rfl ?_
              refine w_inv (k := 2) (as := []) (r := []) (x := 82) (ls0 := [(2, 82), (9, 0), (9, 0)]) gz_49_88 gm_37 rfl is_82 rd_5 rfl rfl rfl rfl rfl (c_Reader_nextToken9_f0 (d := (d + 5))  (cf.trans (by omega)) n_Al (fun h332 frh332 w333 w334 w335 xp336 xp337 Al_h332t338 Cu_h332t339 => ?_))
              have gh332 : my_fr [(4, 4), (4, 5), (4, 6), (4, 7), (4, 8), (4, 9), (5, 5), (5, 6), (5, 7), (5, 8), (5, 9), (32, -1), (33, -1), (34, -1), (35, -1), (36, -1), (37, -1), (38, -1), (39, -1)] h h332 := my_fr.tr my_fr.rf (frh332.mo rfl)
              have Ln_h332 : Ln h332 := Ln_ag (my_ag.fr frh332 rfl) n_Ln
              have Sp_h332 : Sp h332 wv := Sp_ag (my_ag.fr frh332 rfl) hwv n_Ln n_Sp
              have Lo_h332 : Lo h h332 := Lo_ag (my_ag.fr frh332 rfl) n_Ln (Lo_rf)
              have St5_h332 : St5 h332 := St5_ag (my_ag.fr frh332 rfl) n_Ln St5_ht331
              show wp l rho (d + 7) 49 91 [(2, 82), (0, 0), (0, 0), (0, 1), (0, 1), (0, 0)] [] h332 Q
              have xc340 := xp336 n_Cu
              have ck341 := Cu_s Cu_h332t339
              rw [show cs h332 = cs h from cs_eq (fun j => my_fr.at gh332 is_92 rfl) (my_fr.at gh332 is_82 rfl)] at ck341
              rw [show h332 82 7 = (sN (cs h) (h 82 7)) from xc340] at ck341
              refine w_iload_n gz_49_91 rfl ?_
              refine w_ifeq (t := 102) gz_49_92 rfl (fun u342 => ?_) (fun u342 => by exfalso; omega)
              refine w_iload_n gz_49_102 rfl ?_
              refine w_ifeq (t := 113) gz_49_103 rfl (fun u343 => ?_) (fun u343 => by exfalso; omega)
              refine w_iload_n gz_49_113 rfl ?_
              refine w_ifeq (t := 124) gz_49_114 rfl (fun u344 => by exfalso; omega) (fun u344 => ?_)
              refine w_aload_n gz_49_117 rfl ?_
              refine w_inv (k := 2) (as := []) (r := []) (x := 82) (ls0 := [(2, 82), (9, 0), (9, 0)]) gz_49_118 gm_56 rfl is_82 rd_5 rfl rfl rfl rfl rfl (c_Reader_readFew9_f0 (d := (d + 4))  (wv := wv) (((my_fr.at frh332 is_82 rfl).trans cf).trans (by omega)) (by first | assumption | omega) (by first | assumption | omega) Ln_h332 Sp_h332 St5_h332 Al_h332t338 Cu_h332t339 (fun h345 frh345 w346 w347 xp348 xp349 Ln_h345t350 Sp_h345t351 Al_h345t352 Cu_h345t353 => ?_) (fun h354 frh354 w355 xp356 xp357 xp358 Ln_h354t359 Sp_h354t360 Al_h354t361 Cu_h354t362 => ?_))
              ·
                have gh345 : my_fr [(4, 4), (4, 5), (4, 6), (4, 7), (4, 8), (4, 9), (5, 5), (5, 6), (5, 7), (5, 8), (5, 9), (32, -1), (33, -1), (34, -1), (35, -1), (36, -1), (37, -1), (38, -1), (39, -1)] h h345 := my_fr.tr gh332 (frh345.mo rfl)
                show wp l rho (d + 7) 49 121 [(2, 82), (0, 0), (0, 0), (0, 1), (0, 1), (0, 0)] [] h345 Q
                have tE363 : cs h332 = cs h := cs_eq (fun j => my_fr.at gh332 is_92 rfl) (my_fr.at gh332 is_82 rfl)
                rw [tE363] at xp348
                have ps364 : h332 82 7 = (sN (cs h) (h 82 7)) := xc340
                rw [ps364] at xp348
                have q2 : h332 82 2 = h 82 2 := my_fr.at frh332 is_82 rfl
                have q11 : h332 (h 82 2) 1 = h (h 82 2) 1 := my_fr.at frh332 n_Ln.2.2.2.1 rfl
                have q13 : h332 (h 82 2) 3 = h (h 82 2) 3 := my_fr.at frh332 n_Ln.2.2.2.1 rfl
                have q14 : h332 (h 82 2) 4 = h (h 82 2) 4 := my_fr.at frh332 n_Ln.2.2.2.1 rfl
                have q19 : h332 (h 82 2) 9 = h (h 82 2) 9 := my_fr.at frh332 n_Ln.2.2.2.1 rfl
                have qc : h332 2 = h 2 := funext (fun j => my_fr.at frh332 is_2 rfl)
                have zW := xp348
                simp only [q2, q11, q13, q14, q19, qc] at zW
                have Lo_h345t365 : Lo h h345 := Lo_tr Lo_h332 xp349
                refine w_goto (t := 140) gz_49_121 rfl ?_
                have psR : h345 82 7 = h345 82 7 := (rfl : h345 82 7 = h345 82 7)
                have npsR : cs h345 = cs h := cs_eq (fun j => my_fr.at gh345 is_92 rfl) (my_fr.at gh345 is_82 rfl)
                have c366 := (rfl : h345 82 9 = h345 82 9)
                exact w_vret gz_49_140 gm_49 (k0 h345 (gh345) (by omega) (by omega) (by first | exact Lo_h345t365 | exact ⟨st.1, st.2.1, st.2.2.2.2⟩ | exact Or.inl ⟨by omega, zF, st.2.2.1, st.2.2.2.1⟩ | exact Or.inr (Or.inr (Or.inl ⟨by omega, by omega, zC, st.2.2.1, st.2.2.2.1⟩)) | exact Or.inr (Or.inr (Or.inr (Or.inl ⟨by omega, by omega, zW, st.2.2.2.1⟩))) | exact Or.inr (Or.inr (Or.inr (Or.inr (Or.inl ⟨by omega, by omega, zJ, fun _ => st.2.2.1, st.2.2.2.1⟩)))) | exact Or.inr (Or.inr (Or.inr (Or.inr (Or.inr (Or.inl ⟨by omega, by omega, zS, st.2.2.1, st.2.2.2.1⟩))))) | exact ⟨_, _, _, Or.inl ⟨by omega, zF, rfl, rfl⟩⟩ | exact ⟨_, _, _, Or.inr (Or.inr (Or.inl ⟨by omega, by omega, zC, rfl, rfl⟩))⟩ | exact ⟨_, _, _, Or.inr (Or.inr (Or.inr (Or.inl ⟨by omega, by omega, zW, rfl⟩)))⟩ | exact ⟨_, _, _, Or.inr (Or.inr (Or.inr (Or.inr (Or.inl ⟨by omega, by omega, zJ, fun q => absurd q (by omega), rfl⟩))))⟩ | exact ⟨_, _, _, Or.inr (Or.inr (Or.inr (Or.inr (Or.inr (Or.inl ⟨by omega, by omega, zS, rfl, rfl⟩)))))⟩ | exact ⟨0, 0, 0, Or.inr (Or.inl ⟨by omega, by omega, by omega⟩)⟩ | exact ⟨0, 0, 0, Or.inr (Or.inr (Or.inr (Or.inr (Or.inr (Or.inr ⟨by omega, by omega, by omega, by omega, by omega, by omega⟩)))))⟩ | (exfalso; omega) | omega) (by first | exact Lo_h345t365 | exact ⟨st.1, st.2.1, st.2.2.2.2⟩ | exact Or.inl ⟨by omega, zF, st.2.2.1, st.2.2.2.1⟩ | exact Or.inr (Or.inr (Or.inl ⟨by omega, by omega, zC, st.2.2.1, st.2.2.2.1⟩)) | exact Or.inr (Or.inr (Or.inr (Or.inl ⟨by omega, by omega, zW, st.2.2.2.1⟩))) | exact Or.inr (Or.inr (Or.inr (Or.inr (Or.inl ⟨by omega, by omega, zJ, fun _ => st.2.2.1, st.2.2.2.1⟩)))) | exact Or.inr (Or.inr (Or.inr (Or.inr (Or.inr (Or.inl ⟨by omega, by omega, zS, st.2.2.1, st.2.2.2.1⟩))))) | exact ⟨_, _, _, Or.inl ⟨by omega, zF, rfl, rfl⟩⟩ | exact ⟨_, _, _, Or.inr (Or.inr (Or.inl ⟨by omega, by omega, zC, rfl, rfl⟩))⟩ | exact ⟨_, _, _, Or.inr (Or.inr (Or.inr (Or.inl ⟨by omega, by omega, zW, rfl⟩)))⟩ | exact ⟨_, _, _, Or.inr (Or.inr (Or.inr (Or.inr (Or.inl ⟨by omega, by omega, zJ, fun q => absurd q (by omega), rfl⟩))))⟩ | exact ⟨_, _, _, Or.inr (Or.inr (Or.inr (Or.inr (Or.inr (Or.inl ⟨by omega, by omega, zS, rfl, rfl⟩)))))⟩ | exact ⟨0, 0, 0, Or.inr (Or.inl ⟨by omega, by omega, by omega⟩)⟩ | exact ⟨0, 0, 0, Or.inr (Or.inr (Or.inr (Or.inr (Or.inr (Or.inr ⟨by omega, by omega, by omega, by omega, by omega, by omega⟩)))))⟩ | (exfalso; omega) | omega) Ln_h345t350 Sp_h345t351 Al_h345t352 Cu_h345t353)
              ·
                have gh354 : my_fr [(4, 4), (4, 5), (4, 6), (4, 7), (4, 8), (4, 9), (5, 5), (5, 6), (5, 7), (5, 8), (5, 9), (32, -1), (33, -1), (34, -1), (35, -1), (36, -1), (37, -1), (38, -1), (39, -1)] h h354 := my_fr.tr gh332 (frh354.mo rfl)
                show wp l rho (d + 7) 49 121 [(2, 82), (0, 0), (0, 0), (0, 1), (0, 1), (0, 0)] [] h354 Q
                have tE367 : cs h332 = cs h := cs_eq (fun j => my_fr.at gh332 is_92 rfl) (my_fr.at gh332 is_82 rfl)
                rw [tE367] at xp356
                have ps368 : h332 82 7 = (sN (cs h) (h 82 7)) := xc340
                rw [ps368] at xp356
                have q2 : h332 82 2 = h 82 2 := my_fr.at frh332 is_82 rfl
                have q11 : h332 (h 82 2) 1 = h (h 82 2) 1 := my_fr.at frh332 n_Ln.2.2.2.1 rfl
                have q13 : h332 (h 82 2) 3 = h (h 82 2) 3 := my_fr.at frh332 n_Ln.2.2.2.1 rfl
                have q14 : h332 (h 82 2) 4 = h (h 82 2) 4 := my_fr.at frh332 n_Ln.2.2.2.1 rfl
                have q19 : h332 (h 82 2) 9 = h (h 82 2) 9 := my_fr.at frh332 n_Ln.2.2.2.1 rfl
                have qc : h332 2 = h 2 := funext (fun j => my_fr.at frh332 is_2 rfl)
                have zW := xp356
                simp only [q2, q11, q13, q14, q19, qc] at zW
                have st := xp357
                unfold Std at st
                simp only [q2, q11, q13, q14, q19, qc] at st
                have Lo_h354t369 : Lo h h354 := Lo_tr Lo_h332 xp358
                refine w_goto (t := 140) gz_49_121 rfl ?_
                have psR : h354 82 7 = h354 82 7 := (rfl : h354 82 7 = h354 82 7)
                have npsR : cs h354 = cs h := cs_eq (fun j => my_fr.at gh354 is_92 rfl) (my_fr.at gh354 is_82 rfl)
                have c370 := w355
                exact w_vret gz_49_140 gm_49 (k1 h354 (gh354) (by omega) (by first | exact Lo_h354t369 | exact ⟨st.1, st.2.1, st.2.2.2.2⟩ | exact Or.inl ⟨by omega, zF, st.2.2.1, st.2.2.2.1⟩ | exact Or.inr (Or.inr (Or.inl ⟨by omega, by omega, zC, st.2.2.1, st.2.2.2.1⟩)) | exact Or.inr (Or.inr (Or.inr (Or.inl ⟨by omega, by omega, zW, st.2.2.2.1⟩))) | exact Or.inr (Or.inr (Or.inr (Or.inr (Or.inl ⟨by omega, by omega, zJ, fun _ => st.2.2.1, st.2.2.2.1⟩)))) | exact Or.inr (Or.inr (Or.inr (Or.inr (Or.inr (Or.inl ⟨by omega, by omega, zS, st.2.2.1, st.2.2.2.1⟩))))) | exact ⟨_, _, _, Or.inl ⟨by omega, zF, rfl, rfl⟩⟩ | exact ⟨_, _, _, Or.inr (Or.inr (Or.inl ⟨by omega, by omega, zC, rfl, rfl⟩))⟩ | exact ⟨_, _, _, Or.inr (Or.inr (Or.inr (Or.inl ⟨by omega, by omega, zW, rfl⟩)))⟩ | exact ⟨_, _, _, Or.inr (Or.inr (Or.inr (Or.inr (Or.inl ⟨by omega, by omega, zJ, fun q => absurd q (by omega), rfl⟩))))⟩ | exact ⟨_, _, _, Or.inr (Or.inr (Or.inr (Or.inr (Or.inr (Or.inl ⟨by omega, by omega, zS, rfl, rfl⟩)))))⟩ | exact ⟨0, 0, 0, Or.inr (Or.inl ⟨by omega, by omega, by omega⟩)⟩ | exact ⟨0, 0, 0, Or.inr (Or.inr (Or.inr (Or.inr (Or.inr (Or.inr ⟨by omega, by omega, by omega, by omega, by omega, by omega⟩)))))⟩ | (exfalso; omega) | omega) (by first | exact Lo_h354t369 | exact ⟨st.1, st.2.1, st.2.2.2.2⟩ | exact Or.inl ⟨by omega, zF, st.2.2.1, st.2.2.2.1⟩ | exact Or.inr (Or.inr (Or.inl ⟨by omega, by omega, zC, st.2.2.1, st.2.2.2.1⟩)) | exact Or.inr (Or.inr (Or.inr (Or.inl ⟨by omega, by omega, zW, st.2.2.2.1⟩))) | exact Or.inr (Or.inr (Or.inr (Or.inr (Or.inl ⟨by omega, by omega, zJ, fun _ => st.2.2.1, st.2.2.2.1⟩)))) | exact Or.inr (Or.inr (Or.inr (Or.inr (Or.inr (Or.inl ⟨by omega, by omega, zS, st.2.2.1, st.2.2.2.1⟩))))) | exact ⟨_, _, _, Or.inl ⟨by omega, zF, rfl, rfl⟩⟩ | exact ⟨_, _, _, Or.inr (Or.inr (Or.inl ⟨by omega, by omega, zC, rfl, rfl⟩))⟩ | exact ⟨_, _, _, Or.inr (Or.inr (Or.inr (Or.inl ⟨by omega, by omega, zW, rfl⟩)))⟩ | exact ⟨_, _, _, Or.inr (Or.inr (Or.inr (Or.inr (Or.inl ⟨by omega, by omega, zJ, fun q => absurd q (by omega), rfl⟩))))⟩ | exact ⟨_, _, _, Or.inr (Or.inr (Or.inr (Or.inr (Or.inr (Or.inl ⟨by omega, by omega, zS, rfl, rfl⟩)))))⟩ | exact ⟨0, 0, 0, Or.inr (Or.inl ⟨by omega, by omega, by omega⟩)⟩ | exact ⟨0, 0, 0, Or.inr (Or.inr (Or.inr (Or.inr (Or.inr (Or.inr ⟨by omega, by omega, by omega, by omega, by omega, by omega⟩)))))⟩ | (exfalso; omega) | omega) (by first | exact Lo_h354t369 | exact ⟨st.1, st.2.1, st.2.2.2.2⟩ | exact Or.inl ⟨by omega, zF, st.2.2.1, st.2.2.2.1⟩ | exact Or.inr (Or.inr (Or.inl ⟨by omega, by omega, zC, st.2.2.1, st.2.2.2.1⟩)) | exact Or.inr (Or.inr (Or.inr (Or.inl ⟨by omega, by omega, zW, st.2.2.2.1⟩))) | exact Or.inr (Or.inr (Or.inr (Or.inr (Or.inl ⟨by omega, by omega, zJ, fun _ => st.2.2.1, st.2.2.2.1⟩)))) | exact Or.inr (Or.inr (Or.inr (Or.inr (Or.inr (Or.inl ⟨by omega, by omega, zS, st.2.2.1, st.2.2.2.1⟩))))) | exact ⟨_, _, _, Or.inl ⟨by omega, zF, rfl, rfl⟩⟩ | exact ⟨_, _, _, Or.inr (Or.inr (Or.inl ⟨by omega, by omega, zC, rfl, rfl⟩))⟩ | exact ⟨_, _, _, Or.inr (Or.inr (Or.inr (Or.inl ⟨by omega, by omega, zW, rfl⟩)))⟩ | exact ⟨_, _, _, Or.inr (Or.inr (Or.inr (Or.inr (Or.inl ⟨by omega, by omega, zJ, fun q => absurd q (by omega), rfl⟩))))⟩ | exact ⟨_, _, _, Or.inr (Or.inr (Or.inr (Or.inr (Or.inr (Or.inl ⟨by omega, by omega, zS, rfl, rfl⟩)))))⟩ | exact ⟨0, 0, 0, Or.inr (Or.inl ⟨by omega, by omega, by omega⟩)⟩ | exact ⟨0, 0, 0, Or.inr (Or.inr (Or.inr (Or.inr (Or.inr (Or.inr ⟨by omega, by omega, by omega, by omega, by omega, by omega⟩)))))⟩ | (exfalso; omega) | omega) Ln_h354t359 Sp_h354t360 Al_h354t361 Cu_h354t362)
            ·
              refine w_aload_n gz_49_81 rfl ?_
              refine w_iconst gz_49_82 (by decide) ?_
              refine w_inv (k := 0) (as := [(0, 5)]) (r := []) (x := 82) (ls0 := [(2, 82), (0, 5)]) gz_49_83 gm_42 rfl is_82 rd_5 rfl rfl rfl rfl rfl ?_
              refine w_aload_n gz_42_0 rfl ?_
              refine v_getI (j := 9) gz_42_1 rfl is_82 rd_5 rfl (fun v371 ev371 pv371 qv371 => ?_)
              have zv371 := ev371.trans cf
              refine w_ifne (t := 20) gz_42_4 rfl (fun u372 => by exfalso; omega) (fun u372 => ?_)
              refine w_aload_n gz_42_7 rfl ?_
              refine w_iload_n gz_42_8 rfl ?_
              refine w_bipush gz_42_9 (by decide) ?_
              refine w_aload_n gz_42_11 rfl ?_
              refine v_getI (j := 7) gz_42_12 rfl is_82 rd_5 rfl (fun v373 ev373 pv373 qv373 => ?_)
              refine w_imul gz_42_15 ⟨by omega, by omega⟩ ?_
              refine w_iadd gz_42_16 ⟨by omega, by omega⟩ ?_
              refine v_putI (j := 9) gz_42_17 rfl is_82 rd_5 rfl (by omega) (by omega) rfl (fun h374 fh374 => ?_)
              have gh374 : my_fr [(4, 4), (4, 5), (4, 6), (4, 7), (4, 8), (4, 9), (5, 5), (5, 6), (5, 7), (5, 8), (5, 9), (32, -1), (33, -1), (34, -1), (35, -1), (36, -1), (37, -1), (38, -1), (39, -1)] h h374 := my_fr.up my_fr.rf is_82 fh374 rfl
              have Ln_h374 : Ln h374 := Ln_ag (my_ag.up fh374 is_82 rfl) n_Ln
              have Sp_h374 : Sp h374 wv := Sp_ag (my_ag.up fh374 is_82 rfl) hwv n_Ln n_Sp
              have Al_h374 : Al h374 := Al_ag (my_ag.up fh374 is_82 rfl) n_Al
              have Cu_h374 : Cu h374 := Cu_ag (my_ag.up fh374 is_82 rfl) n_Cu
              have Lo_h374 : Lo h h374 := Lo_ag (my_ag.up fh374 is_82 rfl) n_Ln (Lo_rf)
              refine w_vret gz_42_20 gm_42 ?_
              show wp l rho (d + 7) 49 86 [(2, 82), (0, 0), (0, 0), (0, 1), (0, 1), (0, 0)] [] h374 Q
              have psR : h374 82 7 = h 82 7 := ((my_up_fld fh374 (by decide)).trans (rfl : h 82 7 = h 82 7))
              have npsR : cs h374 = cs h := cs_eq (fun j => my_fr.at gh374 is_92 rfl) (my_fr.at gh374 is_82 rfl)
              have c375 := (my_up_self fh374)
              exact w_vret gz_49_86 gm_49 (k0 h374 (gh374) (by omega) (by omega) (by first | exact Lo_h374 | exact ⟨st.1, st.2.1, st.2.2.2.2⟩ | exact Or.inl ⟨by omega, zF, st.2.2.1, st.2.2.2.1⟩ | exact Or.inr (Or.inr (Or.inl ⟨by omega, by omega, zC, st.2.2.1, st.2.2.2.1⟩)) | exact Or.inr (Or.inr (Or.inr (Or.inl ⟨by omega, by omega, zW, st.2.2.2.1⟩))) | exact Or.inr (Or.inr (Or.inr (Or.inr (Or.inl ⟨by omega, by omega, zJ, fun _ => st.2.2.1, st.2.2.2.1⟩)))) | exact Or.inr (Or.inr (Or.inr (Or.inr (Or.inr (Or.inl ⟨by omega, by omega, zS, st.2.2.1, st.2.2.2.1⟩))))) | exact ⟨_, _, _, Or.inl ⟨by omega, zF, rfl, rfl⟩⟩ | exact ⟨_, _, _, Or.inr (Or.inr (Or.inl ⟨by omega, by omega, zC, rfl, rfl⟩))⟩ | exact ⟨_, _, _, Or.inr (Or.inr (Or.inr (Or.inl ⟨by omega, by omega, zW, rfl⟩)))⟩ | exact ⟨_, _, _, Or.inr (Or.inr (Or.inr (Or.inr (Or.inl ⟨by omega, by omega, zJ, fun q => absurd q (by omega), rfl⟩))))⟩ | exact ⟨_, _, _, Or.inr (Or.inr (Or.inr (Or.inr (Or.inr (Or.inl ⟨by omega, by omega, zS, rfl, rfl⟩)))))⟩ | exact ⟨0, 0, 0, Or.inr (Or.inl ⟨by omega, by omega, by omega⟩)⟩ | exact ⟨0, 0, 0, Or.inr (Or.inr (Or.inr (Or.inr (Or.inr (Or.inr ⟨by omega, by omega, by omega, by omega, by omega, by omega⟩)))))⟩ | (exfalso; omega) | omega) (by first | exact Lo_h374 | exact ⟨st.1, st.2.1, st.2.2.2.2⟩ | exact Or.inl ⟨by omega, zF, st.2.2.1, st.2.2.2.1⟩ | exact Or.inr (Or.inr (Or.inl ⟨by omega, by omega, zC, st.2.2.1, st.2.2.2.1⟩)) | exact Or.inr (Or.inr (Or.inr (Or.inl ⟨by omega, by omega, zW, st.2.2.2.1⟩))) | exact Or.inr (Or.inr (Or.inr (Or.inr (Or.inl ⟨by omega, by omega, zJ, fun _ => st.2.2.1, st.2.2.2.1⟩)))) | exact Or.inr (Or.inr (Or.inr (Or.inr (Or.inr (Or.inl ⟨by omega, by omega, zS, st.2.2.1, st.2.2.2.1⟩))))) | exact ⟨_, _, _, Or.inl ⟨by omega, zF, rfl, rfl⟩⟩ | exact ⟨_, _, _, Or.inr (Or.inr (Or.inl ⟨by omega, by omega, zC, rfl, rfl⟩))⟩ | exact ⟨_, _, _, Or.inr (Or.inr (Or.inr (Or.inl ⟨by omega, by omega, zW, rfl⟩)))⟩ | exact ⟨_, _, _, Or.inr (Or.inr (Or.inr (Or.inr (Or.inl ⟨by omega, by omega, zJ, fun q => absurd q (by omega), rfl⟩))))⟩ | exact ⟨_, _, _, Or.inr (Or.inr (Or.inr (Or.inr (Or.inr (Or.inl ⟨by omega, by omega, zS, rfl, rfl⟩)))))⟩ | exact ⟨0, 0, 0, Or.inr (Or.inl ⟨by omega, by omega, by omega⟩)⟩ | exact ⟨0, 0, 0, Or.inr (Or.inr (Or.inr (Or.inr (Or.inr (Or.inr ⟨by omega, by omega, by omega, by omega, by omega, by omega⟩)))))⟩ | (exfalso; omega) | omega) Ln_h374 Sp_h374 Al_h374 Cu_h374)
          ·
            show wp l rho (d + 7) 49 35 [(2, 82), (0, 0), (0, 0), (0, 1), (0, 1), (9, 0)] [(0, 1)] h Q
            rw [show wc ((8 : Nat) : Int) = 26801 from by decide] at xp323
            refine w_istore (ls' := [(2, 82), (0, 0), (0, 0), (0, 1), (0, 1), (0, 1)]) gz_49_35 gm_49 rfl rfl rfl ?_
            refine w_iload_n gz_49_37 rfl ?_
            refine w_ifne (t := 65) gz_49_38 rfl (fun u376 => by exfalso; omega) (fun u376 => ?_)
            refine w_iload_n gz_49_41 rfl ?_
            refine w_ifne (t := 65) gz_49_42 rfl (fun u377 => by exfalso; omega) (fun u377 => ?_)
            refine w_iload_n gz_49_45 rfl ?_
            refine w_ifne (t := 65) gz_49_46 rfl (fun u378 => ?_) (fun u378 => by exfalso; omega)
            refine w_iload_n gz_49_65 rfl ?_
            refine w_ifne (t := 87) gz_49_66 rfl (fun u379 => by exfalso; omega) (fun u379 => ?_)
            refine w_aload_n gz_49_69 rfl ?_
            refine v_getR (j := 2) gz_49_70 rfl is_82 rd_5 rfl (fun v380 ev380 tv380 => ?_)
            have sE73 : v380 = h 82 2 := by first | assumption | omega
            refine v_getI (j := 9) gz_49_73 rfl tv380 rd_4 rfl (fun v381 ev381 pv381 qv381 => ?_)
            have c76 : v381 = h (h 82 2) 9 := by rw [← sE73]; omega
            refine w_bipush gz_49_76 (by decide) ?_
            refine w_iclt (t := 87) gz_49_78 rfl (fun u382 => ?_) (fun u382 => ?_)
            ·
              have St5_ht383 : St5 h := ⟨by subst_vars; omega, by subst_vars; omega⟩
              refine w_aload_n gz_49_87 rfl ?_
              refine w_inv (k := 2) (as := []) (r := []) (x := 82) (ls0 := [(2, 82), (9, 0), (9, 0)]) gz_49_88 gm_37 rfl is_82 rd_5 rfl rfl rfl rfl rfl (c_Reader_nextToken9_f0 (d := (d + 5))  (cf.trans (by omega)) n_Al (fun h384 frh384 w385 w386 w387 xp388 xp389 Al_h384t390 Cu_h384t391 => ?_))
              have gh384 : my_fr [(4, 4), (4, 5), (4, 6), (4, 7), (4, 8), (4, 9), (5, 5), (5, 6), (5, 7), (5, 8), (5, 9), (32, -1), (33, -1), (34, -1), (35, -1), (36, -1), (37, -1), (38, -1), (39, -1)] h h384 := my_fr.tr my_fr.rf (frh384.mo rfl)
              have Ln_h384 : Ln h384 := Ln_ag (my_ag.fr frh384 rfl) n_Ln
              have Sp_h384 : Sp h384 wv := Sp_ag (my_ag.fr frh384 rfl) hwv n_Ln n_Sp
              have Lo_h384 : Lo h h384 := Lo_ag (my_ag.fr frh384 rfl) n_Ln (Lo_rf)
              have St5_h384 : St5 h384 := St5_ag (my_ag.fr frh384 rfl) n_Ln St5_ht383
              show wp l rho (d + 7) 49 91 [(2, 82), (0, 0), (0, 0), (0, 1), (0, 1), (0, 1)] [] h384 Q
              have xc392 := xp388 n_Cu
              have ck393 := Cu_s Cu_h384t391
              rw [show cs h384 = cs h from cs_eq (fun j => my_fr.at gh384 is_92 rfl) (my_fr.at gh384 is_82 rfl)] at ck393
              rw [show h384 82 7 = (sN (cs h) (h 82 7)) from xc392] at ck393
              refine w_iload_n gz_49_91 rfl ?_
              refine w_ifeq (t := 102) gz_49_92 rfl (fun u394 => ?_) (fun u394 => by exfalso; omega)
              refine w_iload_n gz_49_102 rfl ?_
              refine w_ifeq (t := 113) gz_49_103 rfl (fun u395 => ?_) (fun u395 => by exfalso; omega)
              refine w_iload_n gz_49_113 rfl ?_
              refine w_ifeq (t := 124) gz_49_114 rfl (fun u396 => by exfalso; omega) (fun u396 => ?_)
              refine w_aload_n gz_49_117 rfl ?_
              refine w_inv (k := 2) (as := []) (r := []) (x := 82) (ls0 := [(2, 82), (9, 0), (9, 0)]) gz_49_118 gm_56 rfl is_82 rd_5 rfl rfl rfl rfl rfl (c_Reader_readFew9_f0 (d := (d + 4))  (wv := wv) (((my_fr.at frh384 is_82 rfl).trans cf).trans (by omega)) (by first | assumption | omega) (by first | assumption | omega) Ln_h384 Sp_h384 St5_h384 Al_h384t390 Cu_h384t391 (fun h397 frh397 w398 w399 xp400 xp401 Ln_h397t402 Sp_h397t403 Al_h397t404 Cu_h397t405 => ?_) (fun h406 frh406 w407 xp408 xp409 xp410 Ln_h406t411 Sp_h406t412 Al_h406t413 Cu_h406t414 => ?_))
              ·
                have gh397 : my_fr [(4, 4), (4, 5), (4, 6), (4, 7), (4, 8), (4, 9), (5, 5), (5, 6), (5, 7), (5, 8), (5, 9), (32, -1), (33, -1), (34, -1), (35, -1), (36, -1), (37, -1), (38, -1), (39, -1)] h h397 := my_fr.tr gh384 (frh397.mo rfl)
                show wp l rho (d + 7) 49 121 [(2, 82), (0, 0), (0, 0), (0, 1), (0, 1), (0, 1)] [] h397 Q
                have tE415 : cs h384 = cs h := cs_eq (fun j => my_fr.at gh384 is_92 rfl) (my_fr.at gh384 is_82 rfl)
                rw [tE415] at xp400
                have ps416 : h384 82 7 = (sN (cs h) (h 82 7)) := xc392
                rw [ps416] at xp400
                have q2 : h384 82 2 = h 82 2 := my_fr.at frh384 is_82 rfl
                have q11 : h384 (h 82 2) 1 = h (h 82 2) 1 := my_fr.at frh384 n_Ln.2.2.2.1 rfl
                have q13 : h384 (h 82 2) 3 = h (h 82 2) 3 := my_fr.at frh384 n_Ln.2.2.2.1 rfl
                have q14 : h384 (h 82 2) 4 = h (h 82 2) 4 := my_fr.at frh384 n_Ln.2.2.2.1 rfl
                have q19 : h384 (h 82 2) 9 = h (h 82 2) 9 := my_fr.at frh384 n_Ln.2.2.2.1 rfl
                have qc : h384 2 = h 2 := funext (fun j => my_fr.at frh384 is_2 rfl)
                have zW := xp400
                simp only [q2, q11, q13, q14, q19, qc] at zW
                have Lo_h397t417 : Lo h h397 := Lo_tr Lo_h384 xp401
                refine w_goto (t := 140) gz_49_121 rfl ?_
                have psR : h397 82 7 = h397 82 7 := (rfl : h397 82 7 = h397 82 7)
                have npsR : cs h397 = cs h := cs_eq (fun j => my_fr.at gh397 is_92 rfl) (my_fr.at gh397 is_82 rfl)
                have c418 := (rfl : h397 82 9 = h397 82 9)
                exact w_vret gz_49_140 gm_49 (k0 h397 (gh397) (by omega) (by omega) (by first | exact Lo_h397t417 | exact ⟨st.1, st.2.1, st.2.2.2.2⟩ | exact Or.inl ⟨by omega, zF, st.2.2.1, st.2.2.2.1⟩ | exact Or.inr (Or.inr (Or.inl ⟨by omega, by omega, zC, st.2.2.1, st.2.2.2.1⟩)) | exact Or.inr (Or.inr (Or.inr (Or.inl ⟨by omega, by omega, zW, st.2.2.2.1⟩))) | exact Or.inr (Or.inr (Or.inr (Or.inr (Or.inl ⟨by omega, by omega, zJ, fun _ => st.2.2.1, st.2.2.2.1⟩)))) | exact Or.inr (Or.inr (Or.inr (Or.inr (Or.inr (Or.inl ⟨by omega, by omega, zS, st.2.2.1, st.2.2.2.1⟩))))) | exact ⟨_, _, _, Or.inl ⟨by omega, zF, rfl, rfl⟩⟩ | exact ⟨_, _, _, Or.inr (Or.inr (Or.inl ⟨by omega, by omega, zC, rfl, rfl⟩))⟩ | exact ⟨_, _, _, Or.inr (Or.inr (Or.inr (Or.inl ⟨by omega, by omega, zW, rfl⟩)))⟩ | exact ⟨_, _, _, Or.inr (Or.inr (Or.inr (Or.inr (Or.inl ⟨by omega, by omega, zJ, fun q => absurd q (by omega), rfl⟩))))⟩ | exact ⟨_, _, _, Or.inr (Or.inr (Or.inr (Or.inr (Or.inr (Or.inl ⟨by omega, by omega, zS, rfl, rfl⟩)))))⟩ | exact ⟨0, 0, 0, Or.inr (Or.inl ⟨by omega, by omega, by omega⟩)⟩ | exact ⟨0, 0, 0, Or.inr (Or.inr (Or.inr (Or.inr (Or.inr (Or.inr ⟨by omega, by omega, by omega, by omega, by omega, by omega⟩)))))⟩ | (exfalso; omega) | omega) (by first | exact Lo_h397t417 | exact ⟨st.1, st.2.1, st.2.2.2.2⟩ | exact Or.inl ⟨by omega, zF, st.2.2.1, st.2.2.2.1⟩ | exact Or.inr (Or.inr (Or.inl ⟨by omega, by omega, zC, st.2.2.1, st.2.2.2.1⟩)) | exact Or.inr (Or.inr (Or.inr (Or.inl ⟨by omega, by omega, zW, st.2.2.2.1⟩))) | exact Or.inr (Or.inr (Or.inr (Or.inr (Or.inl ⟨by omega, by omega, zJ, fun _ => st.2.2.1, st.2.2.2.1⟩)))) | exact Or.inr (Or.inr (Or.inr (Or.inr (Or.inr (Or.inl ⟨by omega, by omega, zS, st.2.2.1, st.2.2.2.1⟩))))) | exact ⟨_, _, _, Or.inl ⟨by omega, zF, rfl, rfl⟩⟩ | exact ⟨_, _, _, Or.inr (Or.inr (Or.inl ⟨by omega, by omega, zC, rfl, rfl⟩))⟩ | exact ⟨_, _, _, Or.inr (Or.inr (Or.inr (Or.inl ⟨by omega, by omega, zW, rfl⟩)))⟩ | exact ⟨_, _, _, Or.inr (Or.inr (Or.inr (Or.inr (Or.inl ⟨by omega, by omega, zJ, fun q => absurd q (by omega), rfl⟩))))⟩ | exact ⟨_, _, _, Or.inr (Or.inr (Or.inr (Or.inr (Or.inr (Or.inl ⟨by omega, by omega, zS, rfl, rfl⟩)))))⟩ | exact ⟨0, 0, 0, Or.inr (Or.inl ⟨by omega, by omega, by omega⟩)⟩ | exact ⟨0, 0, 0, Or.inr (Or.inr (Or.inr (Or.inr (Or.inr (Or.inr ⟨by omega, by omega, by omega, by omega, by omega, by omega⟩)))))⟩ | (exfalso; omega) | omega) Ln_h397t402 Sp_h397t403 Al_h397t404 Cu_h397t405)
              ·
                have gh406 : my_fr [(4, 4), (4, 5), (4, 6), (4, 7), (4, 8), (4, 9), (5, 5), (5, 6), (5, 7), (5, 8), (5, 9), (32, -1), (33, -1), (34, -1), (35, -1), (36, -1), (37, -1), (38, -1), (39, -1)] h h406 := my_fr.tr gh384 (frh406.mo rfl)
                show wp l rho (d + 7) 49 121 [(2, 82), (0, 0), (0, 0), (0, 1), (0, 1), (0, 1)] [] h406 Q
                have tE419 : cs h384 = cs h := cs_eq (fun j => my_fr.at gh384 is_92 rfl) (my_fr.at gh384 is_82 rfl)
                rw [tE419] at xp408
                have ps420 : h384 82 7 = (sN (cs h) (h 82 7)) := xc392
                rw [ps420] at xp408
                have q2 : h384 82 2 = h 82 2 := my_fr.at frh384 is_82 rfl
                have q11 : h384 (h 82 2) 1 = h (h 82 2) 1 := my_fr.at frh384 n_Ln.2.2.2.1 rfl
                have q13 : h384 (h 82 2) 3 = h (h 82 2) 3 := my_fr.at frh384 n_Ln.2.2.2.1 rfl
                have q14 : h384 (h 82 2) 4 = h (h 82 2) 4 := my_fr.at frh384 n_Ln.2.2.2.1 rfl
                have q19 : h384 (h 82 2) 9 = h (h 82 2) 9 := my_fr.at frh384 n_Ln.2.2.2.1 rfl
                have qc : h384 2 = h 2 := funext (fun j => my_fr.at frh384 is_2 rfl)
                have zW := xp408
                simp only [q2, q11, q13, q14, q19, qc] at zW
                have st := xp409
                unfold Std at st
                simp only [q2, q11, q13, q14, q19, qc] at st
                have Lo_h406t421 : Lo h h406 := Lo_tr Lo_h384 xp410
                refine w_goto (t := 140) gz_49_121 rfl ?_
                have psR : h406 82 7 = h406 82 7 := (rfl : h406 82 7 = h406 82 7)
                have npsR : cs h406 = cs h := cs_eq (fun j => my_fr.at gh406 is_92 rfl) (my_fr.at gh406 is_82 rfl)
                have c422 := w407
                exact w_vret gz_49_140 gm_49 (k1 h406 (gh406) (by omega) (by first | exact Lo_h406t421 | exact ⟨st.1, st.2.1, st.2.2.2.2⟩ | exact Or.inl ⟨by omega, zF, st.2.2.1, st.2.2.2.1⟩ | exact Or.inr (Or.inr (Or.inl ⟨by omega, by omega, zC, st.2.2.1, st.2.2.2.1⟩)) | exact Or.inr (Or.inr (Or.inr (Or.inl ⟨by omega, by omega, zW, st.2.2.2.1⟩))) | exact Or.inr (Or.inr (Or.inr (Or.inr (Or.inl ⟨by omega, by omega, zJ, fun _ => st.2.2.1, st.2.2.2.1⟩)))) | exact Or.inr (Or.inr (Or.inr (Or.inr (Or.inr (Or.inl ⟨by omega, by omega, zS, st.2.2.1, st.2.2.2.1⟩))))) | exact ⟨_, _, _, Or.inl ⟨by omega, zF, rfl, rfl⟩⟩ | exact ⟨_, _, _, Or.inr (Or.inr (Or.inl ⟨by omega, by omega, zC, rfl, rfl⟩))⟩ | exact ⟨_, _, _, Or.inr (Or.inr (Or.inr (Or.inl ⟨by omega, by omega, zW, rfl⟩)))⟩ | exact ⟨_, _, _, Or.inr (Or.inr (Or.inr (Or.inr (Or.inl ⟨by omega, by omega, zJ, fun q => absurd q (by omega), rfl⟩))))⟩ | exact ⟨_, _, _, Or.inr (Or.inr (Or.inr (Or.inr (Or.inr (Or.inl ⟨by omega, by omega, zS, rfl, rfl⟩)))))⟩ | exact ⟨0, 0, 0, Or.inr (Or.inl ⟨by omega, by omega, by omega⟩)⟩ | exact ⟨0, 0, 0, Or.inr (Or.inr (Or.inr (Or.inr (Or.inr (Or.inr ⟨by omega, by omega, by omega, by omega, by omega, by omega⟩)))))⟩ | (exfalso; omega) | omega) (by first | exact Lo_h406t421 | exact ⟨st.1, st.2.1, st.2.2.2.2⟩ | exact Or.inl ⟨by omega, zF, st.2.2.1, st.2.2.2.1⟩ | exact Or.inr (Or.inr (Or.inl ⟨by omega, by omega, zC, st.2.2.1, st.2.2.2.1⟩)) | exact Or.inr (Or.inr (Or.inr (Or.inl ⟨by omega, by omega, zW, st.2.2.2.1⟩))) | exact Or.inr (Or.inr (Or.inr (Or.inr (Or.inl ⟨by omega, by omega, zJ, fun _ => st.2.2.1, st.2.2.2.1⟩)))) | exact Or.inr (Or.inr (Or.inr (Or.inr (Or.inr (Or.inl ⟨by omega, by omega, zS, st.2.2.1, st.2.2.2.1⟩))))) | exact ⟨_, _, _, Or.inl ⟨by omega, zF, rfl, rfl⟩⟩ | exact ⟨_, _, _, Or.inr (Or.inr (Or.inl ⟨by omega, by omega, zC, rfl, rfl⟩))⟩ | exact ⟨_, _, _, Or.inr (Or.inr (Or.inr (Or.inl ⟨by omega, by omega, zW, rfl⟩)))⟩ | exact ⟨_, _, _, Or.inr (Or.inr (Or.inr (Or.inr (Or.inl ⟨by omega, by omega, zJ, fun q => absurd q (by omega), rfl⟩))))⟩ | exact ⟨_, _, _, Or.inr (Or.inr (Or.inr (Or.inr (Or.inr (Or.inl ⟨by omega, by omega, zS, rfl, rfl⟩)))))⟩ | exact ⟨0, 0, 0, Or.inr (Or.inl ⟨by omega, by omega, by omega⟩)⟩ | exact ⟨0, 0, 0, Or.inr (Or.inr (Or.inr (Or.inr (Or.inr (Or.inr ⟨by omega, by omega, by omega, by omega, by omega, by omega⟩)))))⟩ | (exfalso; omega) | omega) (by first | exact Lo_h406t421 | exact ⟨st.1, st.2.1, st.2.2.2.2⟩ | exact Or.inl ⟨by omega, zF, st.2.2.1, st.2.2.2.1⟩ | exact Or.inr (Or.inr (Or.inl ⟨by omega, by omega, zC, st.2.2.1, st.2.2.2.1⟩)) | exact Or.inr (Or.inr (Or.inr (Or.inl ⟨by omega, by omega, zW, st.2.2.2.1⟩))) | exact Or.inr (Or.inr (Or.inr (Or.inr (Or.inl ⟨by omega, by omega, zJ, fun _ => st.2.2.1, st.2.2.2.1⟩)))) | exact Or.inr (Or.inr (Or.inr (Or.inr (Or.inr (Or.inl ⟨by omega, by omega, zS, st.2.2.1, st.2.2.2.1⟩))))) | exact ⟨_, _, _, Or.inl ⟨by omega, zF, rfl, rfl⟩⟩ | exact ⟨_, _, _, Or.inr (Or.inr (Or.inl ⟨by omega, by omega, zC, rfl, rfl⟩))⟩ | exact ⟨_, _, _, Or.inr (Or.inr (Or.inr (Or.inl ⟨by omega, by omega, zW, rfl⟩)))⟩ | exact ⟨_, _, _, Or.inr (Or.inr (Or.inr (Or.inr (Or.inl ⟨by omega, by omega, zJ, fun q => absurd q (by omega), rfl⟩))))⟩ | exact ⟨_, _, _, Or.inr (Or.inr (Or.inr (Or.inr (Or.inr (Or.inl ⟨by omega, by omega, zS, rfl, rfl⟩)))))⟩ | exact ⟨0, 0, 0, Or.inr (Or.inl ⟨by omega, by omega, by omega⟩)⟩ | exact ⟨0, 0, 0, Or.inr (Or.inr (Or.inr (Or.inr (Or.inr (Or.inr ⟨by omega, by omega, by omega, by omega, by omega, by omega⟩)))))⟩ | (exfalso; omega) | omega) Ln_h406t411 Sp_h406t412 Al_h406t413 Cu_h406t414)
            ·
              refine w_aload_n gz_49_81 rfl ?_
              refine w_iconst gz_49_82 (by decide) ?_
              refine w_inv (k := 0) (as := [(0, 5)]) (r := []) (x := 82) (ls0 := [(2, 82), (0, 5)]) gz_49_83 gm_42 rfl is_82 rd_5 rfl rfl rfl rfl rfl ?_
              refine w_aload_n gz_42_0 rfl ?_
              refine v_getI (j := 9) gz_42_1 rfl is_82 rd_5 rfl (fun v423 ev423 pv423 qv423 => ?_)
              have zv423 := ev423.trans cf
              refine w_ifne (t := 20) gz_42_4 rfl (fun u424 => by exfalso; omega) (fun u424 => ?_)
              refine w_aload_n gz_42_7 rfl ?_
              refine w_iload_n gz_42_8 rfl ?_
              refine w_bipush gz_42_9 (by decide) ?_
              refine w_aload_n gz_42_11 rfl ?_
              refine v_getI (j := 7) gz_42_12 rfl is_82 rd_5 rfl (fun v425 ev425 pv425 qv425 => ?_)
              refine w_imul gz_42_15 ⟨by omega, by omega⟩ ?_
              refine w_iadd gz_42_16 ⟨by omega, by omega⟩ ?_
              refine v_putI (j := 9) gz_42_17 rfl is_82 rd_5 rfl (by omega) (by omega) rfl (fun h426 fh426 => ?_)
              have gh426 : my_fr [(4, 4), (4, 5), (4, 6), (4, 7), (4, 8), (4, 9), (5, 5), (5, 6), (5, 7), (5, 8), (5, 9), (32, -1), (33, -1), (34, -1), (35, -1), (36, -1), (37, -1), (38, -1), (39, -1)] h h426 := my_fr.up my_fr.rf is_82 fh426 rfl
              have Ln_h426 : Ln h426 := Ln_ag (my_ag.up fh426 is_82 rfl) n_Ln
              have Sp_h426 : Sp h426 wv := Sp_ag (my_ag.up fh426 is_82 rfl) hwv n_Ln n_Sp
              have Al_h426 : Al h426 := Al_ag (my_ag.up fh426 is_82 rfl) n_Al
              have Cu_h426 : Cu h426 := Cu_ag (my_ag.up fh426 is_82 rfl) n_Cu
              have Lo_h426 : Lo h h426 := Lo_ag (my_ag.up fh426 is_82 rfl) n_Ln (Lo_rf)
              refine w_vret gz_42_20 gm_42 ?_
              show wp l rho (d + 7) 49 86 [(2, 82), (0, 0), (0, 0), (0, 1), (0, 1), (0, 1)] [] h426 Q
              have psR : h426 82 7 = h 82 7 := ((my_up_fld fh426 (by decide)).trans (rfl : h 82 7 = h 82 7))
              have npsR : cs h426 = cs h := cs_eq (fun j => my_fr.at gh426 is_92 rfl) (my_fr.at gh426 is_82 rfl)
              have c427 := (my_up_self fh426)
              exact w_vret gz_49_86 gm_49 (k0 h426 (gh426) (by omega) (by omega) (by first | exact Lo_h426 | exact ⟨st.1, st.2.1, st.2.2.2.2⟩ | exact Or.inl ⟨by omega, zF, st.2.2.1, st.2.2.2.1⟩ | exact Or.inr (Or.inr (Or.inl ⟨by omega, by omega, zC, st.2.2.1, st.2.2.2.1⟩)) | exact Or.inr (Or.inr (Or.inr (Or.inl ⟨by omega, by omega, zW, st.2.2.2.1⟩))) | exact Or.inr (Or.inr (Or.inr (Or.inr (Or.inl ⟨by omega, by omega, zJ, fun _ => st.2.2.1, st.2.2.2.1⟩)))) | exact Or.inr (Or.inr (Or.inr (Or.inr (Or.inr (Or.inl ⟨by omega, by omega, zS, st.2.2.1, st.2.2.2.1⟩))))) | exact ⟨_, _, _, Or.inl ⟨by omega, zF, rfl, rfl⟩⟩ | exact ⟨_, _, _, Or.inr (Or.inr (Or.inl ⟨by omega, by omega, zC, rfl, rfl⟩))⟩ | exact ⟨_, _, _, Or.inr (Or.inr (Or.inr (Or.inl ⟨by omega, by omega, zW, rfl⟩)))⟩ | exact ⟨_, _, _, Or.inr (Or.inr (Or.inr (Or.inr (Or.inl ⟨by omega, by omega, zJ, fun q => absurd q (by omega), rfl⟩))))⟩ | exact ⟨_, _, _, Or.inr (Or.inr (Or.inr (Or.inr (Or.inr (Or.inl ⟨by omega, by omega, zS, rfl, rfl⟩)))))⟩ | exact ⟨0, 0, 0, Or.inr (Or.inl ⟨by omega, by omega, by omega⟩)⟩ | exact ⟨0, 0, 0, Or.inr (Or.inr (Or.inr (Or.inr (Or.inr (Or.inr ⟨by omega, by omega, by omega, by omega, by omega, by omega⟩)))))⟩ | (exfalso; omega) | omega) (by first | exact Lo_h426 | exact ⟨st.1, st.2.1, st.2.2.2.2⟩ | exact Or.inl ⟨by omega, zF, st.2.2.1, st.2.2.2.1⟩ | exact Or.inr (Or.inr (Or.inl ⟨by omega, by omega, zC, st.2.2.1, st.2.2.2.1⟩)) | exact Or.inr (Or.inr (Or.inr (Or.inl ⟨by omega, by omega, zW, st.2.2.2.1⟩))) | exact Or.inr (Or.inr (Or.inr (Or.inr (Or.inl ⟨by omega, by omega, zJ, fun _ => st.2.2.1, st.2.2.2.1⟩)))) | exact Or.inr (Or.inr (Or.inr (Or.inr (Or.inr (Or.inl ⟨by omega, by omega, zS, st.2.2.1, st.2.2.2.1⟩))))) | exact ⟨_, _, _, Or.inl ⟨by omega, zF, rfl, rfl⟩⟩ | exact ⟨_, _, _, Or.inr (Or.inr (Or.inl ⟨by omega, by omega, zC, rfl, rfl⟩))⟩ | exact ⟨_, _, _, Or.inr (Or.inr (Or.inr (Or.inl ⟨by omega, by omega, zW, rfl⟩)))⟩ | exact ⟨_, _, _, Or.inr (Or.inr (Or.inr (Or.inr (Or.inl ⟨by omega, by omega, zJ, fun q => absurd q (by omega), rfl⟩))))⟩ | exact ⟨_, _, _, Or.inr (Or.inr (Or.inr (Or.inr (Or.inr (Or.inl ⟨by omega, by omega, zS, rfl, rfl⟩)))))⟩ | exact ⟨0, 0, 0, Or.inr (Or.inl ⟨by omega, by omega, by omega⟩)⟩ | exact ⟨0, 0, 0, Or.inr (Or.inr (Or.inr (Or.inr (Or.inr (Or.inr ⟨by omega, by omega, by omega, by omega, by omega, by omega⟩)))))⟩ | (exfalso; omega) | omega) Ln_h426 Sp_h426 Al_h426 Cu_h426)
    ·
      show wp l rho (d + 7) 49 13 [(2, 82), (0, 0), (9, 0), (9, 0), (9, 0), (9, 0)] [(0, 1)] h Q
      rw [show wc ((5 : Nat) : Int) = 4904 from by decide] at xp11
      refine w_istore_n (ls' := [(2, 82), (0, 0), (0, 1), (9, 0), (9, 0), (9, 0)]) gz_49_13 gm_49 rfl rfl rfl ?_
      refine w_aload_n gz_49_14 rfl ?_
      refine w_ldcS gz_49_15 (by decide) ?_
      refine w_inv (k := 1) (as := [(3, ((6 : Nat) : Int))]) (r := []) (x := 82) (ls0 := [(2, 82), (3, ((6 : Nat) : Int)), (9, 0)]) gz_49_17 gm_41 rfl is_82 rd_5 rfl rfl rfl rfl rfl (c_Reader_isWord9_f0 (d := (d + 2)) (x1 := ((6 : Nat) : Int)) (by decide) (cf.trans (by omega)) n_Cu (fun w428 xp429 => ?_) (fun w430 w431 xp432 => ?_))
      ·
        show wp l rho (d + 7) 49 20 [(2, 82), (0, 0), (0, 1), (9, 0), (9, 0), (9, 0)] [(0, 0)] h Q
        rw [show wc ((6 : Nat) : Int) = 8422 from by decide] at xp429
        refine w_istore_n (ls' := [(2, 82), (0, 0), (0, 1), (0, 0), (9, 0), (9, 0)]) gz_49_20 gm_49 rfl rfl rfl ?_
        refine w_aload_n gz_49_21 rfl ?_
        refine w_ldcS gz_49_22 (by decide) ?_
        refine w_inv (k := 1) (as := [(3, ((7 : Nat) : Int))]) (r := []) (x := 82) (ls0 := [(2, 82), (3, ((7 : Nat) : Int)), (9, 0)]) gz_49_24 gm_41 rfl is_82 rd_5 rfl rfl rfl rfl rfl (c_Reader_isWord9_f0 (d := (d + 2)) (x1 := ((7 : Nat) : Int)) (by decide) (cf.trans (by omega)) n_Cu (fun w433 xp434 => ?_) (fun w435 w436 xp437 => ?_))
        ·
          show wp l rho (d + 7) 49 27 [(2, 82), (0, 0), (0, 1), (0, 0), (9, 0), (9, 0)] [(0, 0)] h Q
          rw [show wc ((7 : Nat) : Int) = 527412 from by decide] at xp434
          refine w_istore (ls' := [(2, 82), (0, 0), (0, 1), (0, 0), (0, 0), (9, 0)]) gz_49_27 gm_49 rfl rfl rfl ?_
          refine w_aload_n gz_49_29 rfl ?_
          refine w_ldcS gz_49_30 (by decide) ?_
          refine w_inv (k := 1) (as := [(3, ((8 : Nat) : Int))]) (r := []) (x := 82) (ls0 := [(2, 82), (3, ((8 : Nat) : Int)), (9, 0)]) gz_49_32 gm_41 rfl is_82 rd_5 rfl rfl rfl rfl rfl (c_Reader_isWord9_f0 (d := (d + 2)) (x1 := ((8 : Nat) : Int)) (by decide) (cf.trans (by omega)) n_Cu (fun w438 xp439 => ?_) (fun w440 w441 xp442 => ?_))
          ·
            show wp l rho (d + 7) 49 35 [(2, 82), (0, 0), (0, 1), (0, 0), (0, 0), (9, 0)] [(0, 0)] h Q
            rw [show wc ((8 : Nat) : Int) = 26801 from by decide] at xp439
            refine w_istore (ls' := [(2, 82), (0, 0), (0, 1), (0, 0), (0, 0), (0, 0)]) gz_49_35 gm_49 rfl rfl rfl ?_
            refine w_iload_n gz_49_37 rfl ?_
            refine w_ifne (t := 65) gz_49_38 rfl (fun u443 => by exfalso; omega) (fun u443 => ?_)
            refine w_iload_n gz_49_41 rfl ?_
            refine w_ifne (t := 65) gz_49_42 rfl (fun u444 => ?_) (fun u444 => by exfalso; omega)
            refine w_iload_n gz_49_65 rfl ?_
            refine w_ifne (t := 87) gz_49_66 rfl (fun u445 => by exfalso; omega) (fun u445 => ?_)
            refine w_aload_n gz_49_69 rfl ?_
            refine v_getR (j := 2) gz_49_70 rfl is_82 rd_5 rfl (fun v446 ev446 tv446 => ?_)
            have sE73 : v446 = h 82 2 := by first | assumption | omega
            refine v_getI (j := 9) gz_49_73 rfl tv446 rd_4 rfl (fun v447 ev447 pv447 qv447 => ?_)
            have c76 : v447 = h (h 82 2) 9 := by rw [← sE73]; omega
            refine w_bipush gz_49_76 (by decide) ?_
            refine w_iclt (t := 87) gz_49_78 rfl (fun u448 => ?_) (fun u448 => ?_)
            ·
              have St5_ht449 : St5 h := ⟨by subst_vars; omega, by subst_vars; omega⟩
              refine w_aload_n gz_49_87 rfl ?_
              refine w_inv (k := 2) (as := []) (r := []) (x := 82) (ls0 := [(2, 82), (9, 0), (9, 0)]) gz_49_88 gm_37 rfl is_82 rd_5 rfl rfl rfl rfl rfl (c_Reader_nextToken9_f0 (d := (d + 5))  (cf.trans (by omega)) n_Al (fun h450 frh450 w451 w452 w453 xp454 xp455 Al_h450t456 Cu_h450t457 => ?_))
              have gh450 : my_fr [(4, 4), (4, 5), (4, 6), (4, 7), (4, 8), (4, 9), (5, 5), (5, 6), (5, 7), (5, 8), (5, 9), (32, -1), (33, -1), (34, -1), (35, -1), (36, -1), (37, -1), (38, -1), (39, -1)] h h450 := my_fr.tr my_fr.rf (frh450.mo rfl)
              have Ln_h450 : Ln h450 := Ln_ag (my_ag.fr frh450 rfl) n_Ln
              have Sp_h450 : Sp h450 wv := Sp_ag (my_ag.fr frh450 rfl) hwv n_Ln n_Sp
              have Lo_h450 : Lo h h450 := Lo_ag (my_ag.fr frh450 rfl) n_Ln (Lo_rf)
              have St5_h450 : St5 h450 := St5_ag (my_ag.fr frh450 rfl) n_Ln St5_ht449
              show wp l rho (d + 7) 49 91 [(2, 82), (0, 0), (0, 1), (0, 0), (0, 0), (0, 0)] [] h450 Q
              have xc458 := xp454 n_Cu
              have ck459 := Cu_s Cu_h450t457
              rw [show cs h450 = cs h from cs_eq (fun j => my_fr.at gh450 is_92 rfl) (my_fr.at gh450 is_82 rfl)] at ck459
              rw [show h450 82 7 = (sN (cs h) (h 82 7)) from xc458] at ck459
              refine w_iload_n gz_49_91 rfl ?_
              refine w_ifeq (t := 102) gz_49_92 rfl (fun u460 => ?_) (fun u460 => by exfalso; omega)
              refine w_iload_n gz_49_102 rfl ?_
              refine w_ifeq (t := 113) gz_49_103 rfl (fun u461 => by exfalso; omega) (fun u461 => ?_)
              refine w_aload_n gz_49_106 rfl ?_
              refine w_inv (k := 3) (as := []) (r := []) (x := 82) (ls0 := [(2, 82), (9, 0), (9, 0), (9, 0)]) gz_49_107 gm_52 rfl is_82 rd_5 rfl rfl rfl rfl rfl (c_Reader_readCut9_f0 (d := (d + 1))  (wv := wv) (((my_fr.at frh450 is_82 rfl).trans cf).trans (by omega)) (by first | assumption | omega) (by first | assumption | omega) Ln_h450 Sp_h450 St5_h450 Al_h450t456 Cu_h450t457 (fun h462 frh462 w463 w464 xp465 Ln_h462t466 Sp_h462t467 Al_h462t468 Cu_h462t469 => ?_) (fun h470 frh470 w471 xp472 xp473 Ln_h470t474 Sp_h470t475 Al_h470t476 Cu_h470t477 => ?_))
              ·
                have gh462 : my_fr [(4, 4), (4, 5), (4, 6), (4, 7), (4, 8), (4, 9), (5, 5), (5, 6), (5, 7), (5, 8), (5, 9), (32, -1), (33, -1), (34, -1), (35, -1), (36, -1), (37, -1), (38, -1), (39, -1)] h h462 := my_fr.tr gh450 (frh462.mo rfl)
                have Lo_h462 : Lo h h462 := Lo_ag (my_ag.fr frh462 rfl) Ln_h450 Lo_h450
                show wp l rho (d + 7) 49 110 [(2, 82), (0, 0), (0, 1), (0, 0), (0, 0), (0, 0)] [] h462 Q
                have tE478 : cs h450 = cs h := cs_eq (fun j => my_fr.at gh450 is_92 rfl) (my_fr.at gh450 is_82 rfl)
                rw [tE478] at xp465
                have ps479 : h450 82 7 = (sN (cs h) (h 82 7)) := xc458
                rw [ps479] at xp465
                have q2 : h450 82 2 = h 82 2 := my_fr.at frh450 is_82 rfl
                have q11 : h450 (h 82 2) 1 = h (h 82 2) 1 := my_fr.at frh450 n_Ln.2.2.2.1 rfl
                have q13 : h450 (h 82 2) 3 = h (h 82 2) 3 := my_fr.at frh450 n_Ln.2.2.2.1 rfl
                have q14 : h450 (h 82 2) 4 = h (h 82 2) 4 := my_fr.at frh450 n_Ln.2.2.2.1 rfl
                have q19 : h450 (h 82 2) 9 = h (h 82 2) 9 := my_fr.at frh450 n_Ln.2.2.2.1 rfl
                have qc : h450 2 = h 2 := funext (fun j => my_fr.at frh450 is_2 rfl)
                have zC := xp465
                simp only [q2, q11, q13, q14, q19, qc] at zC
                refine w_goto (t := 140) gz_49_110 rfl ?_
                have psR : h462 82 7 = h462 82 7 := (rfl : h462 82 7 = h462 82 7)
                have npsR : cs h462 = cs h := cs_eq (fun j => my_fr.at gh462 is_92 rfl) (my_fr.at gh462 is_82 rfl)
                have c480 := (rfl : h462 82 9 = h462 82 9)
                exact w_vret gz_49_140 gm_49 (k0 h462 (gh462) (by omega) (by omega) (by first | exact Lo_h462 | exact ⟨st.1, st.2.1, st.2.2.2.2⟩ | exact Or.inl ⟨by omega, zF, st.2.2.1, st.2.2.2.1⟩ | exact Or.inr (Or.inr (Or.inl ⟨by omega, by omega, zC, st.2.2.1, st.2.2.2.1⟩)) | exact Or.inr (Or.inr (Or.inr (Or.inl ⟨by omega, by omega, zW, st.2.2.2.1⟩))) | exact Or.inr (Or.inr (Or.inr (Or.inr (Or.inl ⟨by omega, by omega, zJ, fun _ => st.2.2.1, st.2.2.2.1⟩)))) | exact Or.inr (Or.inr (Or.inr (Or.inr (Or.inr (Or.inl ⟨by omega, by omega, zS, st.2.2.1, st.2.2.2.1⟩))))) | exact ⟨_, _, _, Or.inl ⟨by omega, zF, rfl, rfl⟩⟩ | exact ⟨_, _, _, Or.inr (Or.inr (Or.inl ⟨by omega, by omega, zC, rfl, rfl⟩))⟩ | exact ⟨_, _, _, Or.inr (Or.inr (Or.inr (Or.inl ⟨by omega, by omega, zW, rfl⟩)))⟩ | exact ⟨_, _, _, Or.inr (Or.inr (Or.inr (Or.inr (Or.inl ⟨by omega, by omega, zJ, fun q => absurd q (by omega), rfl⟩))))⟩ | exact ⟨_, _, _, Or.inr (Or.inr (Or.inr (Or.inr (Or.inr (Or.inl ⟨by omega, by omega, zS, rfl, rfl⟩)))))⟩ | exact ⟨0, 0, 0, Or.inr (Or.inl ⟨by omega, by omega, by omega⟩)⟩ | exact ⟨0, 0, 0, Or.inr (Or.inr (Or.inr (Or.inr (Or.inr (Or.inr ⟨by omega, by omega, by omega, by omega, by omega, by omega⟩)))))⟩ | (exfalso; omega) | omega) (by first | exact Lo_h462 | exact ⟨st.1, st.2.1, st.2.2.2.2⟩ | exact Or.inl ⟨by omega, zF, st.2.2.1, st.2.2.2.1⟩ | exact Or.inr (Or.inr (Or.inl ⟨by omega, by omega, zC, st.2.2.1, st.2.2.2.1⟩)) | exact Or.inr (Or.inr (Or.inr (Or.inl ⟨by omega, by omega, zW, st.2.2.2.1⟩))) | exact Or.inr (Or.inr (Or.inr (Or.inr (Or.inl ⟨by omega, by omega, zJ, fun _ => st.2.2.1, st.2.2.2.1⟩)))) | exact Or.inr (Or.inr (Or.inr (Or.inr (Or.inr (Or.inl ⟨by omega, by omega, zS, st.2.2.1, st.2.2.2.1⟩))))) | exact ⟨_, _, _, Or.inl ⟨by omega, zF, rfl, rfl⟩⟩ | exact ⟨_, _, _, Or.inr (Or.inr (Or.inl ⟨by omega, by omega, zC, rfl, rfl⟩))⟩ | exact ⟨_, _, _, Or.inr (Or.inr (Or.inr (Or.inl ⟨by omega, by omega, zW, rfl⟩)))⟩ | exact ⟨_, _, _, Or.inr (Or.inr (Or.inr (Or.inr (Or.inl ⟨by omega, by omega, zJ, fun q => absurd q (by omega), rfl⟩))))⟩ | exact ⟨_, _, _, Or.inr (Or.inr (Or.inr (Or.inr (Or.inr (Or.inl ⟨by omega, by omega, zS, rfl, rfl⟩)))))⟩ | exact ⟨0, 0, 0, Or.inr (Or.inl ⟨by omega, by omega, by omega⟩)⟩ | exact ⟨0, 0, 0, Or.inr (Or.inr (Or.inr (Or.inr (Or.inr (Or.inr ⟨by omega, by omega, by omega, by omega, by omega, by omega⟩)))))⟩ | (exfalso; omega) | omega) Ln_h462t466 Sp_h462t467 Al_h462t468 Cu_h462t469)
              ·
                have gh470 : my_fr [(4, 4), (4, 5), (4, 6), (4, 7), (4, 8), (4, 9), (5, 5), (5, 6), (5, 7), (5, 8), (5, 9), (32, -1), (33, -1), (34, -1), (35, -1), (36, -1), (37, -1), (38, -1), (39, -1)] h h470 := my_fr.tr gh450 (frh470.mo rfl)
                have Lo_h470 : Lo h h470 := Lo_ag (my_ag.fr frh470 rfl) Ln_h450 Lo_h450
                show wp l rho (d + 7) 49 110 [(2, 82), (0, 0), (0, 1), (0, 0), (0, 0), (0, 0)] [] h470 Q
                have tE481 : cs h450 = cs h := cs_eq (fun j => my_fr.at gh450 is_92 rfl) (my_fr.at gh450 is_82 rfl)
                rw [tE481] at xp472
                have ps482 : h450 82 7 = (sN (cs h) (h 82 7)) := xc458
                rw [ps482] at xp472
                have q2 : h450 82 2 = h 82 2 := my_fr.at frh450 is_82 rfl
                have q11 : h450 (h 82 2) 1 = h (h 82 2) 1 := my_fr.at frh450 n_Ln.2.2.2.1 rfl
                have q13 : h450 (h 82 2) 3 = h (h 82 2) 3 := my_fr.at frh450 n_Ln.2.2.2.1 rfl
                have q14 : h450 (h 82 2) 4 = h (h 82 2) 4 := my_fr.at frh450 n_Ln.2.2.2.1 rfl
                have q19 : h450 (h 82 2) 9 = h (h 82 2) 9 := my_fr.at frh450 n_Ln.2.2.2.1 rfl
                have qc : h450 2 = h 2 := funext (fun j => my_fr.at frh450 is_2 rfl)
                have zC := xp472
                simp only [q2, q11, q13, q14, q19, qc] at zC
                have st := xp473
                unfold Std at st
                simp only [q2, q11, q13, q14, q19, qc] at st
                refine w_goto (t := 140) gz_49_110 rfl ?_
                have psR : h470 82 7 = h470 82 7 := (rfl : h470 82 7 = h470 82 7)
                have npsR : cs h470 = cs h := cs_eq (fun j => my_fr.at gh470 is_92 rfl) (my_fr.at gh470 is_82 rfl)
                have c483 := w471
                exact w_vret gz_49_140 gm_49 (k1 h470 (gh470) (by omega) (by first | exact Lo_h470 | exact ⟨st.1, st.2.1, st.2.2.2.2⟩ | exact Or.inl ⟨by omega, zF, st.2.2.1, st.2.2.2.1⟩ | exact Or.inr (Or.inr (Or.inl ⟨by omega, by omega, zC, st.2.2.1, st.2.2.2.1⟩)) | exact Or.inr (Or.inr (Or.inr (Or.inl ⟨by omega, by omega, zW, st.2.2.2.1⟩))) | exact Or.inr (Or.inr (Or.inr (Or.inr (Or.inl ⟨by omega, by omega, zJ, fun _ => st.2.2.1, st.2.2.2.1⟩)))) | exact Or.inr (Or.inr (Or.inr (Or.inr (Or.inr (Or.inl ⟨by omega, by omega, zS, st.2.2.1, st.2.2.2.1⟩))))) | exact ⟨_, _, _, Or.inl ⟨by omega, zF, rfl, rfl⟩⟩ | exact ⟨_, _, _, Or.inr (Or.inr (Or.inl ⟨by omega, by omega, zC, rfl, rfl⟩))⟩ | exact ⟨_, _, _, Or.inr (Or.inr (Or.inr (Or.inl ⟨by omega, by omega, zW, rfl⟩)))⟩ | exact ⟨_, _, _, Or.inr (Or.inr (Or.inr (Or.inr (Or.inl ⟨by omega, by omega, zJ, fun q => absurd q (by omega), rfl⟩))))⟩ | exact ⟨_, _, _, Or.inr (Or.inr (Or.inr (Or.inr (Or.inr (Or.inl ⟨by omega, by omega, zS, rfl, rfl⟩)))))⟩ | exact ⟨0, 0, 0, Or.inr (Or.inl ⟨by omega, by omega, by omega⟩)⟩ | exact ⟨0, 0, 0, Or.inr (Or.inr (Or.inr (Or.inr (Or.inr (Or.inr ⟨by omega, by omega, by omega, by omega, by omega, by omega⟩)))))⟩ | (exfalso; omega) | omega) (by first | exact Lo_h470 | exact ⟨st.1, st.2.1, st.2.2.2.2⟩ | exact Or.inl ⟨by omega, zF, st.2.2.1, st.2.2.2.1⟩ | exact Or.inr (Or.inr (Or.inl ⟨by omega, by omega, zC, st.2.2.1, st.2.2.2.1⟩)) | exact Or.inr (Or.inr (Or.inr (Or.inl ⟨by omega, by omega, zW, st.2.2.2.1⟩))) | exact Or.inr (Or.inr (Or.inr (Or.inr (Or.inl ⟨by omega, by omega, zJ, fun _ => st.2.2.1, st.2.2.2.1⟩)))) | exact Or.inr (Or.inr (Or.inr (Or.inr (Or.inr (Or.inl ⟨by omega, by omega, zS, st.2.2.1, st.2.2.2.1⟩))))) | exact ⟨_, _, _, Or.inl ⟨by omega, zF, rfl, rfl⟩⟩ | exact ⟨_, _, _, Or.inr (Or.inr (Or.inl ⟨by omega, by omega, zC, rfl, rfl⟩))⟩ | exact ⟨_, _, _, Or.inr (Or.inr (Or.inr (Or.inl ⟨by omega, by omega, zW, rfl⟩)))⟩ | exact ⟨_, _, _, Or.inr (Or.inr (Or.inr (Or.inr (Or.inl ⟨by omega, by omega, zJ, fun q => absurd q (by omega), rfl⟩))))⟩ | exact ⟨_, _, _, Or.inr (Or.inr (Or.inr (Or.inr (Or.inr (Or.inl ⟨by omega, by omega, zS, rfl, rfl⟩)))))⟩ | exact ⟨0, 0, 0, Or.inr (Or.inl ⟨by omega, by omega, by omega⟩)⟩ | exact ⟨0, 0, 0, Or.inr (Or.inr (Or.inr (Or.inr (Or.inr (Or.inr ⟨by omega, by omega, by omega, by omega, by omega, by omega⟩)))))⟩ | (exfalso; omega) | omega) (by first | exact Lo_h470 | exact ⟨st.1, st.2.1, st.2.2.2.2⟩ | exact Or.inl ⟨by omega, zF, st.2.2.1, st.2.2.2.1⟩ | exact Or.inr (Or.inr (Or.inl ⟨by omega, by omega, zC, st.2.2.1, st.2.2.2.1⟩)) | exact Or.inr (Or.inr (Or.inr (Or.inl ⟨by omega, by omega, zW, st.2.2.2.1⟩))) | exact Or.inr (Or.inr (Or.inr (Or.inr (Or.inl ⟨by omega, by omega, zJ, fun _ => st.2.2.1, st.2.2.2.1⟩)))) | exact Or.inr (Or.inr (Or.inr (Or.inr (Or.inr (Or.inl ⟨by omega, by omega, zS, st.2.2.1, st.2.2.2.1⟩))))) | exact ⟨_, _, _, Or.inl ⟨by omega, zF, rfl, rfl⟩⟩ | exact ⟨_, _, _, Or.inr (Or.inr (Or.inl ⟨by omega, by omega, zC, rfl, rfl⟩))⟩ | exact ⟨_, _, _, Or.inr (Or.inr (Or.inr (Or.inl ⟨by omega, by omega, zW, rfl⟩)))⟩ | exact ⟨_, _, _, Or.inr (Or.inr (Or.inr (Or.inr (Or.inl ⟨by omega, by omega, zJ, fun q => absurd q (by omega), rfl⟩))))⟩ | exact ⟨_, _, _, Or.inr (Or.inr (Or.inr (Or.inr (Or.inr (Or.inl ⟨by omega, by omega, zS, rfl, rfl⟩)))))⟩ | exact ⟨0, 0, 0, Or.inr (Or.inl ⟨by omega, by omega, by omega⟩)⟩ | exact ⟨0, 0, 0, Or.inr (Or.inr (Or.inr (Or.inr (Or.inr (Or.inr ⟨by omega, by omega, by omega, by omega, by omega, by omega⟩)))))⟩ | (exfalso; omega) | omega) Ln_h470t474 Sp_h470t475 Al_h470t476 Cu_h470t477)
            ·
              refine w_aload_n gz_49_81 rfl ?_
              refine w_iconst gz_49_82 (by decide) ?_
              refine w_inv (k := 0) (as := [(0, 5)]) (r := []) (x := 82) (ls0 := [(2, 82), (0, 5)]) gz_49_83 gm_42 rfl is_82 rd_5 rfl rfl rfl rfl rfl ?_
              refine w_aload_n gz_42_0 rfl ?_
              refine v_getI (j := 9) gz_42_1 rfl is_82 rd_5 rfl (fun v484 ev484 pv484 qv484 => ?_)
              have zv484 := ev484.trans cf
              refine w_ifne (t := 20) gz_42_4 rfl (fun u485 => by exfalso; omega) (fun u485 => ?_)
              refine w_aload_n gz_42_7 rfl ?_
              refine w_iload_n gz_42_8 rfl ?_
              refine w_bipush gz_42_9 (by decide) ?_
              refine w_aload_n gz_42_11 rfl ?_
              refine v_getI (j := 7) gz_42_12 rfl is_82 rd_5 rfl (fun v486 ev486 pv486 qv486 => ?_)
              refine w_imul gz_42_15 ⟨by omega, by omega⟩ ?_
              refine w_iadd gz_42_16 ⟨by omega, by omega⟩ ?_
              refine v_putI (j := 9) gz_42_17 rfl is_82 rd_5 rfl (by omega) (by omega) rfl (fun h487 fh487 => ?_)
              have gh487 : my_fr [(4, 4), (4, 5), (4, 6), (4, 7), (4, 8), (4, 9), (5, 5), (5, 6), (5, 7), (5, 8), (5, 9), (32, -1), (33, -1), (34, -1), (35, -1), (36, -1), (37, -1), (38, -1), (39, -1)] h h487 := my_fr.up my_fr.rf is_82 fh487 rfl
              have Ln_h487 : Ln h487 := Ln_ag (my_ag.up fh487 is_82 rfl) n_Ln
              have Sp_h487 : Sp h487 wv := Sp_ag (my_ag.up fh487 is_82 rfl) hwv n_Ln n_Sp
              have Al_h487 : Al h487 := Al_ag (my_ag.up fh487 is_82 rfl) n_Al
              have Cu_h487 : Cu h487 := Cu_ag (my_ag.up fh487 is_82 rfl) n_Cu
              have Lo_h487 : Lo h h487 := Lo_ag (my_ag.up fh487 is_82 rfl) n_Ln (Lo_rf)
              refine w_vret gz_42_20 gm_42 ?_
              show wp l rho (d + 7) 49 86 [(2, 82), (0, 0), (0, 1), (0, 0), (0, 0), (0, 0)] [] h487 Q
              have psR : h487 82 7 = h 82 7 := ((my_up_fld fh487 (by decide)).trans (rfl : h 82 7 = h 82 7))
              have npsR : cs h487 = cs h := cs_eq (fun j => my_fr.at gh487 is_92 rfl) (my_fr.at gh487 is_82 rfl)
              have c488 := (my_up_self fh487)
              exact w_vret gz_49_86 gm_49 (k0 h487 (gh487) (by omega) (by omega) (by first | exact Lo_h487 | exact ⟨st.1, st.2.1, st.2.2.2.2⟩ | exact Or.inl ⟨by omega, zF, st.2.2.1, st.2.2.2.1⟩ | exact Or.inr (Or.inr (Or.inl ⟨by omega, by omega, zC, st.2.2.1, st.2.2.2.1⟩)) | exact Or.inr (Or.inr (Or.inr (Or.inl ⟨by omega, by omega, zW, st.2.2.2.1⟩))) | exact Or.inr (Or.inr (Or.inr (Or.inr (Or.inl ⟨by omega, by omega, zJ, fun _ => st.2.2.1, st.2.2.2.1⟩)))) | exact Or.inr (Or.inr (Or.inr (Or.inr (Or.inr (Or.inl ⟨by omega, by omega, zS, st.2.2.1, st.2.2.2.1⟩))))) | exact ⟨_, _, _, Or.inl ⟨by omega, zF, rfl, rfl⟩⟩ | exact ⟨_, _, _, Or.inr (Or.inr (Or.inl ⟨by omega, by omega, zC, rfl, rfl⟩))⟩ | exact ⟨_, _, _, Or.inr (Or.inr (Or.inr (Or.inl ⟨by omega, by omega, zW, rfl⟩)))⟩ | exact ⟨_, _, _, Or.inr (Or.inr (Or.inr (Or.inr (Or.inl ⟨by omega, by omega, zJ, fun q => absurd q (by omega), rfl⟩))))⟩ | exact ⟨_, _, _, Or.inr (Or.inr (Or.inr (Or.inr (Or.inr (Or.inl ⟨by omega, by omega, zS, rfl, rfl⟩)))))⟩ | exact ⟨0, 0, 0, Or.inr (Or.inl ⟨by omega, by omega, by omega⟩)⟩ | exact ⟨0, 0, 0, Or.inr (Or.inr (Or.inr (Or.inr (Or.inr (Or.inr ⟨by omega, by omega, by omega, by omega, by omega, by omega⟩)))))⟩ | (exfalso; omega) | omega) (by first | exact Lo_h487 | exact ⟨st.1, st.2.1, st.2.2.2.2⟩ | exact Or.inl ⟨by omega, zF, st.2.2.1, st.2.2.2.1⟩ | exact Or.inr (Or.inr (Or.inl ⟨by omega, by omega, zC, st.2.2.1, st.2.2.2.1⟩)) | exact Or.inr (Or.inr (Or.inr (Or.inl ⟨by omega, by omega, zW, st.2.2.2.1⟩))) | exact Or.inr (Or.inr (Or.inr (Or.inr (Or.inl ⟨by omega, by omega, zJ, fun _ => st.2.2.1, st.2.2.2.1⟩)))) | exact Or.inr (Or.inr (Or.inr (Or.inr (Or.inr (Or.inl ⟨by omega, by omega, zS, st.2.2.1, st.2.2.2.1⟩))))) | exact ⟨_, _, _, Or.inl ⟨by omega, zF, rfl, rfl⟩⟩ | exact ⟨_, _, _, Or.inr (Or.inr (Or.inl ⟨by omega, by omega, zC, rfl, rfl⟩))⟩ | exact ⟨_, _, _, Or.inr (Or.inr (Or.inr (Or.inl ⟨by omega, by omega, zW, rfl⟩)))⟩ | exact ⟨_, _, _, Or.inr (Or.inr (Or.inr (Or.inr (Or.inl ⟨by omega, by omega, zJ, fun q => absurd q (by omega), rfl⟩))))⟩ | exact ⟨_, _, _, Or.inr (Or.inr (Or.inr (Or.inr (Or.inr (Or.inl ⟨by omega, by omega, zS, rfl, rfl⟩)))))⟩ | exact ⟨0, 0, 0, Or.inr (Or.inl ⟨by omega, by omega, by omega⟩)⟩ | exact ⟨0, 0, 0, Or.inr (Or.inr (Or.inr (Or.inr (Or.inr (Or.inr ⟨by omega, by omega, by omega, by omega, by omega, by omega⟩)))))⟩ | (exfalso; omega) | omega) Ln_h487 Sp_h487 Al_h487 Cu_h487)
          ·
            show wp l rho (d + 7) 49 35 [(2, 82), (0, 0), (0, 1), (0, 0), (0, 0), (9, 0)] [(0, 1)] h Q
            rw [show wc ((8 : Nat) : Int) = 26801 from by decide] at xp442
            refine w_istore (ls' := [(2, 82), (0, 0), (0, 1), (0, 0), (0, 0), (0, 1)]) gz_49_35 gm_49 rfl rfl rfl ?_
            refine w_iload_n gz_49_37 rfl ?_
            refine w_ifne (t := 65) gz_49_38 rfl (fun u489 => by exfalso; omega) (fun u489 => ?_)
            refine w_iload_n gz_49_41 rfl ?_
            refine w_ifne (t := 65) gz_49_42 rfl (fun u490 => ?_) (fun u490 => by exfalso; omega)
            refine w_iload_n gz_49_65 rfl ?_
            refine w_ifne (t := 87) gz_49_66 rfl (fun u491 => by exfalso; omega) (fun u491 => ?_)
            refine w_aload_n gz_49_69 rfl ?_
            refine v_getR (j := 2) gz_49_70 rfl is_82 rd_5 rfl (fun v492 ev492 tv492 => ?_)
            have sE73 : v492 = h 82 2 := by first | assumption | omega
            refine v_getI (j := 9) gz_49_73 rfl tv492 rd_4 rfl (fun v493 ev493 pv493 qv493 => ?_)
            have c76 : v493 = h (h 82 2) 9 := by rw [← sE73]; omega
            refine w_bipush gz_49_76 (by decide) ?_
            refine w_iclt (t := 87) gz_49_78 rfl (fun u494 => ?_) (fun u494 => ?_)
            ·
              have St5_ht495 : St5 h := ⟨by subst_vars; omega, by subst_vars; omega⟩
              refine w_aload_n gz_49_87 rfl ?_
              refine w_inv (k := 2) (as := []) (r := []) (x := 82) (ls0 := [(2, 82), (9, 0), (9, 0)]) gz_49_88 gm_37 rfl is_82 rd_5 rfl rfl rfl rfl rfl (c_Reader_nextToken9_f0 (d := (d + 5))  (cf.trans (by omega)) n_Al (fun h496 frh496 w497 w498 w499 xp500 xp501 Al_h496t502 Cu_h496t503 => ?_))
              have gh496 : my_fr [(4, 4), (4, 5), (4, 6), (4, 7), (4, 8), (4, 9), (5, 5), (5, 6), (5, 7), (5, 8), (5, 9), (32, -1), (33, -1), (34, -1), (35, -1), (36, -1), (37, -1), (38, -1), (39, -1)] h h496 := my_fr.tr my_fr.rf (frh496.mo rfl)
              have Ln_h496 : Ln h496 := Ln_ag (my_ag.fr frh496 rfl) n_Ln
              have Sp_h496 : Sp h496 wv := Sp_ag (my_ag.fr frh496 rfl) hwv n_Ln n_Sp
              have Lo_h496 : Lo h h496 := Lo_ag (my_ag.fr frh496 rfl) n_Ln (Lo_rf)
              have St5_h496 : St5 h496 := St5_ag (my_ag.fr frh496 rfl) n_Ln St5_ht495
              show wp l rho (d + 7) 49 91 [(2, 82), (0, 0), (0, 1), (0, 0), (0, 0), (0, 1)] [] h496 Q
              have xc504 := xp500 n_Cu
              have ck505 := Cu_s Cu_h496t503
              rw [show cs h496 = cs h from cs_eq (fun j => my_fr.at gh496 is_92 rfl) (my_fr.at gh496 is_82 rfl)] at ck505
              rw [show h496 82 7 = (sN (cs h) (h 82 7)) from xc504] at ck505
              refine w_iload_n gz_49_91 rfl ?_
              refine w_ifeq (t := 102) gz_49_92 rfl (fun u506 => ?_) (fun u506 => by exfalso; omega)
              refine w_iload_n gz_49_102 rfl ?_
              refine w_ifeq (t := 113) gz_49_103 rfl (fun u507 => by exfalso; omega) (fun u507 => ?_)
              refine w_aload_n gz_49_106 rfl ?_
              refine w_inv (k := 3) (as := []) (r := []) (x := 82) (ls0 := [(2, 82), (9, 0), (9, 0), (9, 0)]) gz_49_107 gm_52 rfl is_82 rd_5 rfl rfl rfl rfl rfl (c_Reader_readCut9_f0 (d := (d + 1))  (wv := wv) (((my_fr.at frh496 is_82 rfl).trans cf).trans (by omega)) (by first | assumption | omega) (by first | assumption | omega) Ln_h496 Sp_h496 St5_h496 Al_h496t502 Cu_h496t503 (fun h508 frh508 w509 w510 xp511 Ln_h508t512 Sp_h508t513 Al_h508t514 Cu_h508t515 => ?_) (fun h516 frh516 w517 xp518 xp519 Ln_h516t520 Sp_h516t521 Al_h516t522 Cu_h516t523 => ?_))
              ·
                have gh508 : my_fr [(4, 4), (4, 5), (4, 6), (4, 7), (4, 8), (4, 9), (5, 5), (5, 6), (5, 7), (5, 8), (5, 9), (32, -1), (33, -1), (34, -1), (35, -1), (36, -1), (37, -1), (38, -1), (39, -1)] h h508 := my_fr.tr gh496 (frh508.mo rfl)
                have Lo_h508 : Lo h h508 := Lo_ag (my_ag.fr frh508 rfl) Ln_h496 Lo_h496
                show wp l rho (d + 7) 49 110 [(2, 82), (0, 0), (0, 1), (0, 0), (0, 0), (0, 1)] [] h508 Q
                have tE524 : cs h496 = cs h := cs_eq (fun j => my_fr.at gh496 is_92 rfl) (my_fr.at gh496 is_82 rfl)
                rw [tE524] at xp511
                have ps525 : h496 82 7 = (sN (cs h) (h 82 7)) := xc504
                rw [ps525] at xp511
                have q2 : h496 82 2 = h 82 2 := my_fr.at frh496 is_82 rfl
                have q11 : h496 (h 82 2) 1 = h (h 82 2) 1 := my_fr.at frh496 n_Ln.2.2.2.1 rfl
                have q13 : h496 (h 82 2) 3 = h (h 82 2) 3 := my_fr.at frh496 n_Ln.2.2.2.1 rfl
                have q14 : h496 (h 82 2) 4 = h (h 82 2) 4 := my_fr.at frh496 n_Ln.2.2.2.1 rfl
                have q19 : h496 (h 82 2) 9 = h (h 82 2) 9 := my_fr.at frh496 n_Ln.2.2.2.1 rfl
                have qc : h496 2 = h 2 := funext (fun j => my_fr.at frh496 is_2 rfl)
                have zC := xp511
                simp only [q2, q11, q13, q14, q19, qc] at zC
                refine w_goto (t := 140) gz_49_110 rfl ?_
                have psR : h508 82 7 = h508 82 7 := (rfl : h508 82 7 = h508 82 7)
                have npsR : cs h508 = cs h := cs_eq (fun j => my_fr.at gh508 is_92 rfl) (my_fr.at gh508 is_82 rfl)
                have c526 := (rfl : h508 82 9 = h508 82 9)
                exact w_vret gz_49_140 gm_49 (k0 h508 (gh508) (by omega) (by omega) (by first | exact Lo_h508 | exact ⟨st.1, st.2.1, st.2.2.2.2⟩ | exact Or.inl ⟨by omega, zF, st.2.2.1, st.2.2.2.1⟩ | exact Or.inr (Or.inr (Or.inl ⟨by omega, by omega, zC, st.2.2.1, st.2.2.2.1⟩)) | exact Or.inr (Or.inr (Or.inr (Or.inl ⟨by omega, by omega, zW, st.2.2.2.1⟩))) | exact Or.inr (Or.inr (Or.inr (Or.inr (Or.inl ⟨by omega, by omega, zJ, fun _ => st.2.2.1, st.2.2.2.1⟩)))) | exact Or.inr (Or.inr (Or.inr (Or.inr (Or.inr (Or.inl ⟨by omega, by omega, zS, st.2.2.1, st.2.2.2.1⟩))))) | exact ⟨_, _, _, Or.inl ⟨by omega, zF, rfl, rfl⟩⟩ | exact ⟨_, _, _, Or.inr (Or.inr (Or.inl ⟨by omega, by omega, zC, rfl, rfl⟩))⟩ | exact ⟨_, _, _, Or.inr (Or.inr (Or.inr (Or.inl ⟨by omega, by omega, zW, rfl⟩)))⟩ | exact ⟨_, _, _, Or.inr (Or.inr (Or.inr (Or.inr (Or.inl ⟨by omega, by omega, zJ, fun q => absurd q (by omega), rfl⟩))))⟩ | exact ⟨_, _, _, Or.inr (Or.inr (Or.inr (Or.inr (Or.inr (Or.inl ⟨by omega, by omega, zS, rfl, rfl⟩)))))⟩ | exact ⟨0, 0, 0, Or.inr (Or.inl ⟨by omega, by omega, by omega⟩)⟩ | exact ⟨0, 0, 0, Or.inr (Or.inr (Or.inr (Or.inr (Or.inr (Or.inr ⟨by omega, by omega, by omega, by omega, by omega, by omega⟩)))))⟩ | (exfalso; omega) | omega) (by first | exact Lo_h508 | exact ⟨st.1, st.2.1, st.2.2.2.2⟩ | exact Or.inl ⟨by omega, zF, st.2.2.1, st.2.2.2.1⟩ | exact Or.inr (Or.inr (Or.inl ⟨by omega, by omega, zC, st.2.2.1, st.2.2.2.1⟩)) | exact Or.inr (Or.inr (Or.inr (Or.inl ⟨by omega, by omega, zW, st.2.2.2.1⟩))) | exact Or.inr (Or.inr (Or.inr (Or.inr (Or.inl ⟨by omega, by omega, zJ, fun _ => st.2.2.1, st.2.2.2.1⟩)))) | exact Or.inr (Or.inr (Or.inr (Or.inr (Or.inr (Or.inl ⟨by omega, by omega, zS, st.2.2.1, st.2.2.2.1⟩))))) | exact ⟨_, _, _, Or.inl ⟨by omega, zF, rfl, rfl⟩⟩ | exact ⟨_, _, _, Or.inr (Or.inr (Or.inl ⟨by omega, by omega, zC, rfl, rfl⟩))⟩ | exact ⟨_, _, _, Or.inr (Or.inr (Or.inr (Or.inl ⟨by omega, by omega, zW, rfl⟩)))⟩ | exact ⟨_, _, _, Or.inr (Or.inr (Or.inr (Or.inr (Or.inl ⟨by omega, by omega, zJ, fun q => absurd q (by omega), rfl⟩))))⟩ | exact ⟨_, _, _, Or.inr (Or.inr (Or.inr (Or.inr (Or.inr (Or.inl ⟨by omega, by omega, zS, rfl, rfl⟩)))))⟩ | exact ⟨0, 0, 0, Or.inr (Or.inl ⟨by omega, by omega, by omega⟩)⟩ | exact ⟨0, 0, 0, Or.inr (Or.inr (Or.inr (Or.inr (Or.inr (Or.inr ⟨by omega, by omega, by omega, by omega, by omega, by omega⟩)))))⟩ | (exfalso; omega) | omega) Ln_h508t512 Sp_h508t513 Al_h508t514 Cu_h508t515)
              ·
                have gh516 : my_fr [(4, 4), (4, 5), (4, 6), (4, 7), (4, 8), (4, 9), (5, 5), (5, 6), (5, 7), (5, 8), (5, 9), (32, -1), (33, -1), (34, -1), (35, -1), (36, -1), (37, -1), (38, -1), (39, -1)] h h516 := my_fr.tr gh496 (frh516.mo rfl)
                have Lo_h516 : Lo h h516 := Lo_ag (my_ag.fr frh516 rfl) Ln_h496 Lo_h496
                show wp l rho (d + 7) 49 110 [(2, 82), (0, 0), (0, 1), (0, 0), (0, 0), (0, 1)] [] h516 Q
                have tE527 : cs h496 = cs h := cs_eq (fun j => my_fr.at gh496 is_92 rfl) (my_fr.at gh496 is_82 rfl)
                rw [tE527] at xp518
                have ps528 : h496 82 7 = (sN (cs h) (h 82 7)) := xc504
                rw [ps528] at xp518
                have q2 : h496 82 2 = h 82 2 := my_fr.at frh496 is_82 rfl
                have q11 : h496 (h 82 2) 1 = h (h 82 2) 1 := my_fr.at frh496 n_Ln.2.2.2.1 rfl
                have q13 : h496 (h 82 2) 3 = h (h 82 2) 3 := my_fr.at frh496 n_Ln.2.2.2.1 rfl
                have q14 : h496 (h 82 2) 4 = h (h 82 2) 4 := my_fr.at frh496 n_Ln.2.2.2.1 rfl
                have q19 : h496 (h 82 2) 9 = h (h 82 2) 9 := my_fr.at frh496 n_Ln.2.2.2.1 rfl
                have qc : h496 2 = h 2 := funext (fun j => my_fr.at frh496 is_2 rfl)
                have zC := xp518
                simp only [q2, q11, q13, q14, q19, qc] at zC
                have st := xp519
                unfold Std at st
                simp only [q2, q11, q13, q14, q19, qc] at st
                refine w_goto (t := 140) gz_49_110 rfl ?_
                have psR : h516 82 7 = h516 82 7 := (rfl : h516 82 7 = h516 82 7)
                have npsR : cs h516 = cs h := cs_eq (fun j => my_fr.at gh516 is_92 rfl) (my_fr.at gh516 is_82 rfl)
                have c529 := w517
                exact w_vret gz_49_140 gm_49 (k1 h516 (gh516) (by omega) (by first | exact Lo_h516 | exact ⟨st.1, st.2.1, st.2.2.2.2⟩ | exact Or.inl ⟨by omega, zF, st.2.2.1, st.2.2.2.1⟩ | exact Or.inr (Or.inr (Or.inl ⟨by omega, by omega, zC, st.2.2.1, st.2.2.2.1⟩)) | exact Or.inr (Or.inr (Or.inr (Or.inl ⟨by omega, by omega, zW, st.2.2.2.1⟩))) | exact Or.inr (Or.inr (Or.inr (Or.inr (Or.inl ⟨by omega, by omega, zJ, fun _ => st.2.2.1, st.2.2.2.1⟩)))) | exact Or.inr (Or.inr (Or.inr (Or.inr (Or.inr (Or.inl ⟨by omega, by omega, zS, st.2.2.1, st.2.2.2.1⟩))))) | exact ⟨_, _, _, Or.inl ⟨by omega, zF, rfl, rfl⟩⟩ | exact ⟨_, _, _, Or.inr (Or.inr (Or.inl ⟨by omega, by omega, zC, rfl, rfl⟩))⟩ | exact ⟨_, _, _, Or.inr (Or.inr (Or.inr (Or.inl ⟨by omega, by omega, zW, rfl⟩)))⟩ | exact ⟨_, _, _, Or.inr (Or.inr (Or.inr (Or.inr (Or.inl ⟨by omega, by omega, zJ, fun q => absurd q (by omega), rfl⟩))))⟩ | exact ⟨_, _, _, Or.inr (Or.inr (Or.inr (Or.inr (Or.inr (Or.inl ⟨by omega, by omega, zS, rfl, rfl⟩)))))⟩ | exact ⟨0, 0, 0, Or.inr (Or.inl ⟨by omega, by omega, by omega⟩)⟩ | exact ⟨0, 0, 0, Or.inr (Or.inr (Or.inr (Or.inr (Or.inr (Or.inr ⟨by omega, by omega, by omega, by omega, by omega, by omega⟩)))))⟩ | (exfalso; omega) | omega) (by first | exact Lo_h516 | exact ⟨st.1, st.2.1, st.2.2.2.2⟩ | exact Or.inl ⟨by omega, zF, st.2.2.1, st.2.2.2.1⟩ | exact Or.inr (Or.inr (Or.inl ⟨by omega, by omega, zC, st.2.2.1, st.2.2.2.1⟩)) | exact Or.inr (Or.inr (Or.inr (Or.inl ⟨by omega, by omega, zW, st.2.2.2.1⟩))) | exact Or.inr (Or.inr (Or.inr (Or.inr (Or.inl ⟨by omega, by omega, zJ, fun _ => st.2.2.1, st.2.2.2.1⟩)))) | exact Or.inr (Or.inr (Or.inr (Or.inr (Or.inr (Or.inl ⟨by omega, by omega, zS, st.2.2.1, st.2.2.2.1⟩))))) | exact ⟨_, _, _, Or.inl ⟨by omega, zF, rfl, rfl⟩⟩ | exact ⟨_, _, _, Or.inr (Or.inr (Or.inl ⟨by omega, by omega, zC, rfl, rfl⟩))⟩ | exact ⟨_, _, _, Or.inr (Or.inr (Or.inr (Or.inl ⟨by omega, by omega, zW, rfl⟩)))⟩ | exact ⟨_, _, _, Or.inr (Or.inr (Or.inr (Or.inr (Or.inl ⟨by omega, by omega, zJ, fun q => absurd q (by omega), rfl⟩))))⟩ | exact ⟨_, _, _, Or.inr (Or.inr (Or.inr (Or.inr (Or.inr (Or.inl ⟨by omega, by omega, zS, rfl, rfl⟩)))))⟩ | exact ⟨0, 0, 0, Or.inr (Or.inl ⟨by omega, by omega, by omega⟩)⟩ | exact ⟨0, 0, 0, Or.inr (Or.inr (Or.inr (Or.inr (Or.inr (Or.inr ⟨by omega, by omega, by omega, by omega, by omega, by omega⟩)))))⟩ | (exfalso; omega) | omega) (by first | exact Lo_h516 | exact ⟨st.1, st.2.1, st.2.2.2.2⟩ | exact Or.inl ⟨by omega, zF, st.2.2.1, st.2.2.2.1⟩ | exact Or.inr (Or.inr (Or.inl ⟨by omega, by omega, zC, st.2.2.1, st.2.2.2.1⟩)) | exact Or.inr (Or.inr (Or.inr (Or.inl ⟨by omega, by omega, zW, st.2.2.2.1⟩))) | exact Or.inr (Or.inr (Or.inr (Or.inr (Or.inl ⟨by omega, by omega, zJ, fun _ => st.2.2.1, st.2.2.2.1⟩)))) | exact Or.inr (Or.inr (Or.inr (Or.inr (Or.inr (Or.inl ⟨by omega, by omega, zS, st.2.2.1, st.2.2.2.1⟩))))) | exact ⟨_, _, _, Or.inl ⟨by omega, zF, rfl, rfl⟩⟩ | exact ⟨_, _, _, Or.inr (Or.inr (Or.inl ⟨by omega, by omega, zC, rfl, rfl⟩))⟩ | exact ⟨_, _, _, Or.inr (Or.inr (Or.inr (Or.inl ⟨by omega, by omega, zW, rfl⟩)))⟩ | exact ⟨_, _, _, Or.inr (Or.inr (Or.inr (Or.inr (Or.inl ⟨by omega, by omega, zJ, fun q => absurd q (by omega), rfl⟩))))⟩ | exact ⟨_, _, _, Or.inr (Or.inr (Or.inr (Or.inr (Or.inr (Or.inl ⟨by omega, by omega, zS, rfl, rfl⟩)))))⟩ | exact ⟨0, 0, 0, Or.inr (Or.inl ⟨by omega, by omega, by omega⟩)⟩ | exact ⟨0, 0, 0, Or.inr (Or.inr (Or.inr (Or.inr (Or.inr (Or.inr ⟨by omega, by omega, by omega, by omega, by omega, by omega⟩)))))⟩ | (exfalso; omega) | omega) Ln_h516t520 Sp_h516t521 Al_h516t522 Cu_h516t523)
            ·
              refine w_aload_n gz_49_81 rfl ?_
              refine w_iconst gz_49_82 (by decide) ?_
              refine w_inv (k := 0) (as := [(0, 5)]) (r := []) (x := 82) (ls0 := [(2, 82), (0, 5)]) gz_49_83 gm_42 rfl is_82 rd_5 rfl rfl rfl rfl rfl ?_
              refine w_aload_n gz_42_0 rfl ?_
              refine v_getI (j := 9) gz_42_1 rfl is_82 rd_5 rfl (fun v530 ev530 pv530 qv530 => ?_)
              have zv530 := ev530.trans cf
              refine w_ifne (t := 20) gz_42_4 rfl (fun u531 => by exfalso; omega) (fun u531 => ?_)
              refine w_aload_n gz_42_7 rfl ?_
              refine w_iload_n gz_42_8 rfl ?_
              refine w_bipush gz_42_9 (by decide) ?_
              refine w_aload_n gz_42_11 rfl ?_
              refine v_getI (j := 7) gz_42_12 rfl is_82 rd_5 rfl (fun v532 ev532 pv532 qv532 => ?_)
              refine w_imul gz_42_15 ⟨by omega, by omega⟩ ?_
              refine w_iadd gz_42_16 ⟨by omega, by omega⟩ ?_
              refine v_putI (j := 9) gz_42_17 rfl is_82 rd_5 rfl (by omega) (by omega) rfl (fun h533 fh533 => ?_)
              have gh533 : my_fr [(4, 4), (4, 5), (4, 6), (4, 7), (4, 8), (4, 9), (5, 5), (5, 6), (5, 7), (5, 8), (5, 9), (32, -1), (33, -1), (34, -1), (35, -1), (36, -1), (37, -1), (38, -1), (39, -1)] h h533 := my_fr.up my_fr.rf is_82 fh533 rfl
              have Ln_h533 : Ln h533 := Ln_ag (my_ag.up fh533 is_82 rfl) n_Ln
              have Sp_h533 : Sp h533 wv := Sp_ag (my_ag.up fh533 is_82 rfl) hwv n_Ln n_Sp
              have Al_h533 : Al h533 := Al_ag (my_ag.up fh533 is_82 rfl) n_Al
              have Cu_h533 : Cu h533 := Cu_ag (my_ag.up fh533 is_82 rfl) n_Cu
              have Lo_h533 : Lo h h533 := Lo_ag (my_ag.up fh533 is_82 rfl) n_Ln (Lo_rf)
              refine w_vret gz_42_20 gm_42 ?_
              show wp l rho (d + 7) 49 86 [(2, 82), (0, 0), (0, 1), (0, 0), (0, 0), (0, 1)] [] h533 Q
              have psR : h533 82 7 = h 82 7 := ((my_up_fld fh533 (by decide)).trans (rfl : h 82 7 = h 82 7))
              have npsR : cs h533 = cs h := cs_eq (fun j => my_fr.at gh533 is_92 rfl) (my_fr.at gh533 is_82 rfl)
              have c534 := (my_up_self fh533)
              exact w_vret gz_49_86 gm_49 (k0 h533 (gh533) (by omega) (by omega) (by first | exact Lo_h533 | exact ⟨st.1, st.2.1, st.2.2.2.2⟩ | exact Or.inl ⟨by omega, zF, st.2.2.1, st.2.2.2.1⟩ | exact Or.inr (Or.inr (Or.inl ⟨by omega, by omega, zC, st.2.2.1, st.2.2.2.1⟩)) | exact Or.inr (Or.inr (Or.inr (Or.inl ⟨by omega, by omega, zW, st.2.2.2.1⟩))) | exact Or.inr (Or.inr (Or.inr (Or.inr (Or.inl ⟨by omega, by omega, zJ, fun _ => st.2.2.1, st.2.2.2.1⟩)))) | exact Or.inr (Or.inr (Or.inr (Or.inr (Or.inr (Or.inl ⟨by omega, by omega, zS, st.2.2.1, st.2.2.2.1⟩))))) | exact ⟨_, _, _, Or.inl ⟨by omega, zF, rfl, rfl⟩⟩ | exact ⟨_, _, _, Or.inr (Or.inr (Or.inl ⟨by omega, by omega, zC, rfl, rfl⟩))⟩ | exact ⟨_, _, _, Or.inr (Or.inr (Or.inr (Or.inl ⟨by omega, by omega, zW, rfl⟩)))⟩ | exact ⟨_, _, _, Or.inr (Or.inr (Or.inr (Or.inr (Or.inl ⟨by omega, by omega, zJ, fun q => absurd q (by omega), rfl⟩))))⟩ | exact ⟨_, _, _, Or.inr (Or.inr (Or.inr (Or.inr (Or.inr (Or.inl ⟨by omega, by omega, zS, rfl, rfl⟩)))))⟩ | exact ⟨0, 0, 0, Or.inr (Or.inl ⟨by omega, by omega, by omega⟩)⟩ | exact ⟨0, 0, 0, Or.inr (Or.inr (Or.inr (Or.inr (Or.inr (Or.inr ⟨by omega, by omega, by omega, by omega, by omega, by omega⟩)))))⟩ | (exfalso; omega) | omega) (by first | exact Lo_h533 | exact ⟨st.1, st.2.1, st.2.2.2.2⟩ | exact Or.inl ⟨by omega, zF, st.2.2.1, st.2.2.2.1⟩ | exact Or.inr (Or.inr (Or.inl ⟨by omega, by omega, zC, st.2.2.1, st.2.2.2.1⟩)) | exact Or.inr (Or.inr (Or.inr (Or.inl ⟨by omega, by omega, zW, st.2.2.2.1⟩))) | exact Or.inr (Or.inr (Or.inr (Or.inr (Or.inl ⟨by omega, by omega, zJ, fun _ => st.2.2.1, st.2.2.2.1⟩)))) | exact Or.inr (Or.inr (Or.inr (Or.inr (Or.inr (Or.inl ⟨by omega, by omega, zS, st.2.2.1, st.2.2.2.1⟩))))) | exact ⟨_, _, _, Or.inl ⟨by omega, zF, rfl, rfl⟩⟩ | exact ⟨_, _, _, Or.inr (Or.inr (Or.inl ⟨by omega, by omega, zC, rfl, rfl⟩))⟩ | exact ⟨_, _, _, Or.inr (Or.inr (Or.inr (Or.inl ⟨by omega, by omega, zW, rfl⟩)))⟩ | exact ⟨_, _, _, Or.inr (Or.inr (Or.inr (Or.inr (Or.inl ⟨by omega, by omega, zJ, fun q => absurd q (by omega), rfl⟩))))⟩ | exact ⟨_, _, _, Or.inr (Or.inr (Or.inr (Or.inr (Or.inr (Or.inl ⟨by omega, by omega, zS, rfl, rfl⟩)))))⟩ | exact ⟨0, 0, 0, Or.inr (Or.inl ⟨by omega, by omega, by omega⟩)⟩ | exact ⟨0, 0, 0, Or.inr (Or.inr (Or.inr (Or.inr (Or.inr (Or.inr ⟨by omega, by omega, by omega, by omega, by omega, by omega⟩)))))⟩ | (exfalso; omega) | omega) Ln_h533 Sp_h533 Al_h533 Cu_h533)
        ·
          show wp l rho (d + 7) 49 27 [(2, 82), (0, 0), (0, 1), (0, 0), (9, 0), (9, 0)] [(0, 1)] h Q
          rw [show wc ((7 : Nat) : Int) = 527412 from by decide] at xp437
          refine w_istore (ls' := [(2, 82), (0, 0), (0, 1), (0, 0), (0, 1), (9, 0)]) gz_49_27 gm_49 rfl rfl rfl ?_
          refine w_aload_n gz_49_29 rfl ?_
          refine w_ldcS gz_49_30 (by decide) ?_
          refine w_inv (k := 1) (as := [(3, ((8 : Nat) : Int))]) (r := []) (x := 82) (ls0 := [(2, 82), (3, ((8 : Nat) : Int)), (9, 0)]) gz_49_32 gm_41 rfl is_82 rd_5 rfl rfl rfl rfl rfl (c_Reader_isWord9_f0 (d := (d + 2)) (x1 := ((8 : Nat) : Int)) (by decide) (cf.trans (by omega)) n_Cu (fun w535 xp536 => ?_) (fun w537 w538 xp539 => ?_))
          ·
            show wp l rho (d + 7) 49 35 [(2, 82), (0, 0), (0, 1), (0, 0), (0, 1), (9, 0)] [(0, 0)] h Q
            rw [show wc ((8 : Nat) : Int) = 26801 from by decide] at xp536
            refine w_istore (ls' := [(2, 82), (0, 0), (0, 1), (0, 0), (0, 1), (0, 0)]) gz_49_35 gm_49 rfl rfl rfl ?_
            refine w_iload_n gz_49_37 rfl ?_
            refine w_ifne (t := 65) gz_49_38 rfl (fun u540 => by exfalso; omega) (fun u540 => ?_)
            refine w_iload_n gz_49_41 rfl ?_
            refine w_ifne (t := 65) gz_49_42 rfl (fun u541 => ?_) (fun u541 => by exfalso; omega)
            refine w_iload_n gz_49_65 rfl ?_
            refine w_ifne (t := 87) gz_49_66 rfl (fun u542 => by exfalso; omega) (fun u542 => ?_)
            refine w_aload_n gz_49_69 rfl ?_
            refine v_getR (j := 2) gz_49_70 rfl is_82 rd_5 rfl (fun v543 ev543 tv543 => ?_)
            have sE73 : v543 = h 82 2 := by first | assumption | omega
            refine v_getI (j := 9) gz_49_73 rfl tv543 rd_4 rfl (fun v544 ev544 pv544 qv544 => ?_)
            have c76 : v544 = h (h 82 2) 9 := by rw [← sE73]; omega
            refine w_bipush gz_49_76 (by decide) ?_
            refine w_iclt (t := 87) gz_49_78 rfl (fun u545 => ?_) (fun u545 => ?_)
            ·
              have St5_ht546 : St5 h := ⟨by subst_vars; omega, by subst_vars; omega⟩
              refine w_aload_n gz_49_87 rfl ?_
              refine w_inv (k := 2) (as := []) (r := []) (x := 82) (ls0 := [(2, 82), (9, 0), (9, 0)]) gz_49_88 gm_37 rfl is_82 rd_5 rfl rfl rfl rfl rfl (c_Reader_nextToken9_f0 (d := (d + 5))  (cf.trans (by omega)) n_Al (fun h547 frh547 w548 w549 w550 xp551 xp552 Al_h547t553 Cu_h547t554 => ?_))
              have gh547 : my_fr [(4, 4), (4, 5), (4, 6), (4, 7), (4, 8), (4, 9), (5, 5), (5, 6), (5, 7), (5, 8), (5, 9), (32, -1), (33, -1), (34, -1), (35, -1), (36, -1), (37, -1), (38, -1), (39, -1)] h h547 := my_fr.tr my_fr.rf (frh547.mo rfl)
              have Ln_h547 : Ln h547 := Ln_ag (my_ag.fr frh547 rfl) n_Ln
              have Sp_h547 : Sp h547 wv := Sp_ag (my_ag.fr frh547 rfl) hwv n_Ln n_Sp
              have Lo_h547 : Lo h h547 := Lo_ag (my_ag.fr frh547 rfl) n_Ln (Lo_rf)
              have St5_h547 : St5 h547 := St5_ag (my_ag.fr frh547 rfl) n_Ln St5_ht546
              show wp l rho (d + 7) 49 91 [(2, 82), (0, 0), (0, 1), (0, 0), (0, 1), (0, 0)] [] h547 Q
              have xc555 := xp551 n_Cu
              have ck556 := Cu_s Cu_h547t554
              rw [show cs h547 = cs h from cs_eq (fun j => my_fr.at gh547 is_92 rfl) (my_fr.at gh547 is_82 rfl)] at ck556
              rw [show h547 82 7 = (sN (cs h) (h 82 7)) from xc555] at ck556
              refine w_iload_n gz_49_91 rfl ?_
              refine w_ifeq (t := 102) gz_49_92 rfl (fun u557 => ?_) (fun u557 => by exfalso; omega)
              refine w_iload_n gz_49_102 rfl ?_
              refine w_ifeq (t := 113) gz_49_103 rfl (fun u558 => by exfalso; omega) (fun u558 => ?_)
              refine w_aload_n gz_49_106 rfl ?_
              refine w_inv (k := 3) (as := []) (r := []) (x := 82) (ls0 := [(2, 82), (9, 0), (9, 0), (9, 0)]) gz_49_107 gm_52 rfl is_82 rd_5 rfl rfl rfl rfl rfl (c_Reader_readCut9_f0 (d := (d + 1))  (wv := wv) (((my_fr.at frh547 is_82 rfl).trans cf).trans (by omega)) (by first | assumption | omega) (by first | assumption | omega) Ln_h547 Sp_h547 St5_h547 Al_h547t553 Cu_h547t554 (fun h559 frh559 w560 w561 xp562 Ln_h559t563 Sp_h559t564 Al_h559t565 Cu_h559t566 => ?_) (fun h567 frh567 w568 xp569 xp570 Ln_h567t571 Sp_h567t572 Al_h567t573 Cu_h567t574 => ?_))
              ·
                have gh559 : my_fr [(4, 4), (4, 5), (4, 6), (4, 7), (4, 8), (4, 9), (5, 5), (5, 6), (5, 7), (5, 8), (5, 9), (32, -1), (33, -1), (34, -1), (35, -1), (36, -1), (37, -1), (38, -1), (39, -1)] h h559 := my_fr.tr gh547 (frh559.mo rfl)
                have Lo_h559 : Lo h h559 := Lo_ag (my_ag.fr frh559 rfl) Ln_h547 Lo_h547
                show wp l rho (d + 7) 49 110 [(2, 82), (0, 0), (0, 1), (0, 0), (0, 1), (0, 0)] [] h559 Q
                have tE575 : cs h547 = cs h := cs_eq (fun j => my_fr.at gh547 is_92 rfl) (my_fr.at gh547 is_82 rfl)
                rw [tE575] at xp562
                have ps576 : h547 82 7 = (sN (cs h) (h 82 7)) := xc555
                rw [ps576] at xp562
                have q2 : h547 82 2 = h 82 2 := my_fr.at frh547 is_82 rfl
                have q11 : h547 (h 82 2) 1 = h (h 82 2) 1 := my_fr.at frh547 n_Ln.2.2.2.1 rfl
                have q13 : h547 (h 82 2) 3 = h (h 82 2) 3 := my_fr.at frh547 n_Ln.2.2.2.1 rfl
                have q14 : h547 (h 82 2) 4 = h (h 82 2) 4 := my_fr.at frh547 n_Ln.2.2.2.1 rfl
                have q19 : h547 (h 82 2) 9 = h (h 82 2) 9 := my_fr.at frh547 n_Ln.2.2.2.1 rfl
                have qc : h547 2 = h 2 := funext (fun j => my_fr.at frh547 is_2 rfl)
                have zC := xp562
                simp only [q2, q11, q13, q14, q19, qc] at zC
                refine w_goto (t := 140) gz_49_110 rfl ?_
                have psR : h559 82 7 = h559 82 7 := (rfl : h559 82 7 = h559 82 7)
                have npsR : cs h559 = cs h := cs_eq (fun j => my_fr.at gh559 is_92 rfl) (my_fr.at gh559 is_82 rfl)
                have c577 := (rfl : h559 82 9 = h559 82 9)
                exact w_vret gz_49_140 gm_49 (k0 h559 (gh559) (by omega) (by omega) (by first | exact Lo_h559 | exact ⟨st.1, st.2.1, st.2.2.2.2⟩ | exact Or.inl ⟨by omega, zF, st.2.2.1, st.2.2.2.1⟩ | exact Or.inr (Or.inr (Or.inl ⟨by omega, by omega, zC, st.2.2.1, st.2.2.2.1⟩)) | exact Or.inr (Or.inr (Or.inr (Or.inl ⟨by omega, by omega, zW, st.2.2.2.1⟩))) | exact Or.inr (Or.inr (Or.inr (Or.inr (Or.inl ⟨by omega, by omega, zJ, fun _ => st.2.2.1, st.2.2.2.1⟩)))) | exact Or.inr (Or.inr (Or.inr (Or.inr (Or.inr (Or.inl ⟨by omega, by omega, zS, st.2.2.1, st.2.2.2.1⟩))))) | exact ⟨_, _, _, Or.inl ⟨by omega, zF, rfl, rfl⟩⟩ | exact ⟨_, _, _, Or.inr (Or.inr (Or.inl ⟨by omega, by omega, zC, rfl, rfl⟩))⟩ | exact ⟨_, _, _, Or.inr (Or.inr (Or.inr (Or.inl ⟨by omega, by omega, zW, rfl⟩)))⟩ | exact ⟨_, _, _, Or.inr (Or.inr (Or.inr (Or.inr (Or.inl ⟨by omega, by omega, zJ, fun q => absurd q (by omega), rfl⟩))))⟩ | exact ⟨_, _, _, Or.inr (Or.inr (Or.inr (Or.inr (Or.inr (Or.inl ⟨by omega, by omega, zS, rfl, rfl⟩)))))⟩ | exact ⟨0, 0, 0, Or.inr (Or.inl ⟨by omega, by omega, by omega⟩)⟩ | exact ⟨0, 0, 0, Or.inr (Or.inr (Or.inr (Or.inr (Or.inr (Or.inr ⟨by omega, by omega, by omega, by omega, by omega, by omega⟩)))))⟩ | (exfalso; omega) | omega) (by first | exact Lo_h559 | exact ⟨st.1, st.2.1, st.2.2.2.2⟩ | exact Or.inl ⟨by omega, zF, st.2.2.1, st.2.2.2.1⟩ | exact Or.inr (Or.inr (Or.inl ⟨by omega, by omega, zC, st.2.2.1, st.2.2.2.1⟩)) | exact Or.inr (Or.inr (Or.inr (Or.inl ⟨by omega, by omega, zW, st.2.2.2.1⟩))) | exact Or.inr (Or.inr (Or.inr (Or.inr (Or.inl ⟨by omega, by omega, zJ, fun _ => st.2.2.1, st.2.2.2.1⟩)))) | exact Or.inr (Or.inr (Or.inr (Or.inr (Or.inr (Or.inl ⟨by omega, by omega, zS, st.2.2.1, st.2.2.2.1⟩))))) | exact ⟨_, _, _, Or.inl ⟨by omega, zF, rfl, rfl⟩⟩ | exact ⟨_, _, _, Or.inr (Or.inr (Or.inl ⟨by omega, by omega, zC, rfl, rfl⟩))⟩ | exact ⟨_, _, _, Or.inr (Or.inr (Or.inr (Or.inl ⟨by omega, by omega, zW, rfl⟩)))⟩ | exact ⟨_, _, _, Or.inr (Or.inr (Or.inr (Or.inr (Or.inl ⟨by omega, by omega, zJ, fun q => absurd q (by omega), rfl⟩))))⟩ | exact ⟨_, _, _, Or.inr (Or.inr (Or.inr (Or.inr (Or.inr (Or.inl ⟨by omega, by omega, zS, rfl, rfl⟩)))))⟩ | exact ⟨0, 0, 0, Or.inr (Or.inl ⟨by omega, by omega, by omega⟩)⟩ | exact ⟨0, 0, 0, Or.inr (Or.inr (Or.inr (Or.inr (Or.inr (Or.inr ⟨by omega, by omega, by omega, by omega, by omega, by omega⟩)))))⟩ | (exfalso; omega) | omega) Ln_h559t563 Sp_h559t564 Al_h559t565 Cu_h559t566)
              ·
                have gh567 : my_fr [(4, 4), (4, 5), (4, 6), (4, 7), (4, 8), (4, 9), (5, 5), (5, 6), (5, 7), (5, 8), (5, 9), (32, -1), (33, -1), (34, -1), (35, -1), (36, -1), (37, -1), (38, -1), (39, -1)] h h567 := my_fr.tr gh547 (frh567.mo rfl)
                have Lo_h567 : Lo h h567 := Lo_ag (my_ag.fr frh567 rfl) Ln_h547 Lo_h547
                show wp l rho (d + 7) 49 110 [(2, 82), (0, 0), (0, 1), (0, 0), (0, 1), (0, 0)] [] h567 Q
                have tE578 : cs h547 = cs h := cs_eq (fun j => my_fr.at gh547 is_92 rfl) (my_fr.at gh547 is_82 rfl)
                rw [tE578] at xp569
                have ps579 : h547 82 7 = (sN (cs h) (h 82 7)) := xc555
                rw [ps579] at xp569
                have q2 : h547 82 2 = h 82 2 := my_fr.at frh547 is_82 rfl
                have q11 : h547 (h 82 2) 1 = h (h 82 2) 1 := my_fr.at frh547 n_Ln.2.2.2.1 rfl
                have q13 : h547 (h 82 2) 3 = h (h 82 2) 3 := my_fr.at frh547 n_Ln.2.2.2.1 rfl
                have q14 : h547 (h 82 2) 4 = h (h 82 2) 4 := my_fr.at frh547 n_Ln.2.2.2.1 rfl
                have q19 : h547 (h 82 2) 9 = h (h 82 2) 9 := my_fr.at frh547 n_Ln.2.2.2.1 rfl
                have qc : h547 2 = h 2 := funext (fun j => my_fr.at frh547 is_2 rfl)
                have zC := xp569
                simp only [q2, q11, q13, q14, q19, qc] at zC
                have st := xp570
                unfold Std at st
                simp only [q2, q11, q13, q14, q19, qc] at st
                refine w_goto (t := 140) gz_49_110 rfl ?_
                have psR : h567 82 7 = h567 82 7 := (rfl : h567 82 7 = h567 82 7)
                have npsR : cs h567 = cs h := cs_eq (fun j => my_fr.at gh567 is_92 rfl) (my_fr.at gh567 is_82 rfl)
                have c580 := w568
                exact w_vret gz_49_140 gm_49 (k1 h567 (gh567) (by omega) (by first | exact Lo_h567 | exact ⟨st.1, st.2.1, st.2.2.2.2⟩ | exact Or.inl ⟨by omega, zF, st.2.2.1, st.2.2.2.1⟩ | exact Or.inr (Or.inr (Or.inl ⟨by omega, by omega, zC, st.2.2.1, st.2.2.2.1⟩)) | exact Or.inr (Or.inr (Or.inr (Or.inl ⟨by omega, by omega, zW, st.2.2.2.1⟩))) | exact Or.inr (Or.inr (Or.inr (Or.inr (Or.inl ⟨by omega, by omega, zJ, fun _ => st.2.2.1, st.2.2.2.1⟩)))) | exact Or.inr (Or.inr (Or.inr (Or.inr (Or.inr (Or.inl ⟨by omega, by omega, zS, st.2.2.1, st.2.2.2.1⟩))))) | exact ⟨_, _, _, Or.inl ⟨by omega, zF, rfl, rfl⟩⟩ | exact ⟨_, _, _, Or.inr (Or.inr (Or.inl ⟨by omega, by omega, zC, rfl, rfl⟩))⟩ | exact ⟨_, _, _, Or.inr (Or.inr (Or.inr (Or.inl ⟨by omega, by omega, zW, rfl⟩)))⟩ | exact ⟨_, _, _, Or.inr (Or.inr (Or.inr (Or.inr (Or.inl ⟨by omega, by omega, zJ, fun q => absurd q (by omega), rfl⟩))))⟩ | exact ⟨_, _, _, Or.inr (Or.inr (Or.inr (Or.inr (Or.inr (Or.inl ⟨by omega, by omega, zS, rfl, rfl⟩)))))⟩ | exact ⟨0, 0, 0, Or.inr (Or.inl ⟨by omega, by omega, by omega⟩)⟩ | exact ⟨0, 0, 0, Or.inr (Or.inr (Or.inr (Or.inr (Or.inr (Or.inr ⟨by omega, by omega, by omega, by omega, by omega, by omega⟩)))))⟩ | (exfalso; omega) | omega) (by first | exact Lo_h567 | exact ⟨st.1, st.2.1, st.2.2.2.2⟩ | exact Or.inl ⟨by omega, zF, st.2.2.1, st.2.2.2.1⟩ | exact Or.inr (Or.inr (Or.inl ⟨by omega, by omega, zC, st.2.2.1, st.2.2.2.1⟩)) | exact Or.inr (Or.inr (Or.inr (Or.inl ⟨by omega, by omega, zW, st.2.2.2.1⟩))) | exact Or.inr (Or.inr (Or.inr (Or.inr (Or.inl ⟨by omega, by omega, zJ, fun _ => st.2.2.1, st.2.2.2.1⟩)))) | exact Or.inr (Or.inr (Or.inr (Or.inr (Or.inr (Or.inl ⟨by omega, by omega, zS, st.2.2.1, st.2.2.2.1⟩))))) | exact ⟨_, _, _, Or.inl ⟨by omega, zF, rfl, rfl⟩⟩ | exact ⟨_, _, _, Or.inr (Or.inr (Or.inl ⟨by omega, by omega, zC, rfl, rfl⟩))⟩ | exact ⟨_, _, _, Or.inr (Or.inr (Or.inr (Or.inl ⟨by omega, by omega, zW, rfl⟩)))⟩ | exact ⟨_, _, _, Or.inr (Or.inr (Or.inr (Or.inr (Or.inl ⟨by omega, by omega, zJ, fun q => absurd q (by omega), rfl⟩))))⟩ | exact ⟨_, _, _, Or.inr (Or.inr (Or.inr (Or.inr (Or.inr (Or.inl ⟨by omega, by omega, zS, rfl, rfl⟩)))))⟩ | exact ⟨0, 0, 0, Or.inr (Or.inl ⟨by omega, by omega, by omega⟩)⟩ | exact ⟨0, 0, 0, Or.inr (Or.inr (Or.inr (Or.inr (Or.inr (Or.inr ⟨by omega, by omega, by omega, by omega, by omega, by omega⟩)))))⟩ | (exfalso; omega) | omega) (by first | exact Lo_h567 | exact ⟨st.1, st.2.1, st.2.2.2.2⟩ | exact Or.inl ⟨by omega, zF, st.2.2.1, st.2.2.2.1⟩ | exact Or.inr (Or.inr (Or.inl ⟨by omega, by omega, zC, st.2.2.1, st.2.2.2.1⟩)) | exact Or.inr (Or.inr (Or.inr (Or.inl ⟨by omega, by omega, zW, st.2.2.2.1⟩))) | exact Or.inr (Or.inr (Or.inr (Or.inr (Or.inl ⟨by omega, by omega, zJ, fun _ => st.2.2.1, st.2.2.2.1⟩)))) | exact Or.inr (Or.inr (Or.inr (Or.inr (Or.inr (Or.inl ⟨by omega, by omega, zS, st.2.2.1, st.2.2.2.1⟩))))) | exact ⟨_, _, _, Or.inl ⟨by omega, zF, rfl, rfl⟩⟩ | exact ⟨_, _, _, Or.inr (Or.inr (Or.inl ⟨by omega, by omega, zC, rfl, rfl⟩))⟩ | exact ⟨_, _, _, Or.inr (Or.inr (Or.inr (Or.inl ⟨by omega, by omega, zW, rfl⟩)))⟩ | exact ⟨_, _, _, Or.inr (Or.inr (Or.inr (Or.inr (Or.inl ⟨by omega, by omega, zJ, fun q => absurd q (by omega), rfl⟩))))⟩ | exact ⟨_, _, _, Or.inr (Or.inr (Or.inr (Or.inr (Or.inr (Or.inl ⟨by omega, by omega, zS, rfl, rfl⟩)))))⟩ | exact ⟨0, 0, 0, Or.inr (Or.inl ⟨by omega, by omega, by omega⟩)⟩ | exact ⟨0, 0, 0, Or.inr (Or.inr (Or.inr (Or.inr (Or.inr (Or.inr ⟨by omega, by omega, by omega, by omega, by omega, by omega⟩)))))⟩ | (exfalso; omega) | omega) Ln_h567t571 Sp_h567t572 Al_h567t573 Cu_h567t574)
            ·
              refine w_aload_n gz_49_81 rfl ?_
              refine w_iconst gz_49_82 (by decide) ?_
              refine w_inv (k := 0) (as := [(0, 5)]) (r := []) (x := 82) (ls0 := [(2, 82), (0, 5)]) gz_49_83 gm_42 rfl is_82 rd_5 rfl rfl rfl rfl rfl ?_
              refine w_aload_n gz_42_0 rfl ?_
              refine v_getI (j := 9) gz_42_1 rfl is_82 rd_5 rfl (fun v581 ev581 pv581 qv581 => ?_)
              have zv581 := ev581.trans cf
              refine w_ifne (t := 20) gz_42_4 rfl (fun u582 => by exfalso; omega) (fun u582 => ?_)
              refine w_aload_n gz_42_7 rfl ?_
              refine w_iload_n gz_42_8 rfl ?_
              refine w_bipush gz_42_9 (by decide) ?_
              refine w_aload_n gz_42_11 rfl ?_
              refine v_getI (j := 7) gz_42_12 rfl is_82 rd_5 rfl (fun v583 ev583 pv583 qv583 => ?_)
              refine w_imul gz_42_15 ⟨by omega, by omega⟩ ?_
              refine w_iadd gz_42_16 ⟨by omega, by omega⟩ ?_
              refine v_putI (j := 9) gz_42_17 rfl is_82 rd_5 rfl (by omega) (by omega) rfl (fun h584 fh584 => ?_)
              have gh584 : my_fr [(4, 4), (4, 5), (4, 6), (4, 7), (4, 8), (4, 9), (5, 5), (5, 6), (5, 7), (5, 8), (5, 9), (32, -1), (33, -1), (34, -1), (35, -1), (36, -1), (37, -1), (38, -1), (39, -1)] h h584 := my_fr.up my_fr.rf is_82 fh584 rfl
              have Ln_h584 : Ln h584 := Ln_ag (my_ag.up fh584 is_82 rfl) n_Ln
              have Sp_h584 : Sp h584 wv := Sp_ag (my_ag.up fh584 is_82 rfl) hwv n_Ln n_Sp
              have Al_h584 : Al h584 := Al_ag (my_ag.up fh584 is_82 rfl) n_Al
              have Cu_h584 : Cu h584 := Cu_ag (my_ag.up fh584 is_82 rfl) n_Cu
              have Lo_h584 : Lo h h584 := Lo_ag (my_ag.up fh584 is_82 rfl) n_Ln (Lo_rf)
              refine w_vret gz_42_20 gm_42 ?_
              show wp l rho (d + 7) 49 86 [(2, 82), (0, 0), (0, 1), (0, 0), (0, 1), (0, 0)] [] h584 Q
              have psR : h584 82 7 = h 82 7 := ((my_up_fld fh584 (by decide)).trans (rfl : h 82 7 = h 82 7))
              have npsR : cs h584 = cs h := cs_eq (fun j => my_fr.at gh584 is_92 rfl) (my_fr.at gh584 is_82 rfl)
              have c585 := (my_up_self fh584)
              exact w_vret gz_49_86 gm_49 (k0 h584 (gh584) (by omega) (by omega) (by first | exact Lo_h584 | exact ⟨st.1, st.2.1, st.2.2.2.2⟩ | exact Or.inl ⟨by omega, zF, st.2.2.1, st.2.2.2.1⟩ | exact Or.inr (Or.inr (Or.inl ⟨by omega, by omega, zC, st.2.2.1, st.2.2.2.1⟩)) | exact Or.inr (Or.inr (Or.inr (Or.inl ⟨by omega, by omega, zW, st.2.2.2.1⟩))) | exact Or.inr (Or.inr (Or.inr (Or.inr (Or.inl ⟨by omega, by omega, zJ, fun _ => st.2.2.1, st.2.2.2.1⟩)))) | exact Or.inr (Or.inr (Or.inr (Or.inr (Or.inr (Or.inl ⟨by omega, by omega, zS, st.2.2.1, st.2.2.2.1⟩))))) | exact ⟨_, _, _, Or.inl ⟨by omega, zF, rfl, rfl⟩⟩ | exact ⟨_, _, _, Or.inr (Or.inr (Or.inl ⟨by omega, by omega, zC, rfl, rfl⟩))⟩ | exact ⟨_, _, _, Or.inr (Or.inr (Or.inr (Or.inl ⟨by omega, by omega, zW, rfl⟩)))⟩ | exact ⟨_, _, _, Or.inr (Or.inr (Or.inr (Or.inr (Or.inl ⟨by omega, by omega, zJ, fun q => absurd q (by omega), rfl⟩))))⟩ | exact ⟨_, _, _, Or.inr (Or.inr (Or.inr (Or.inr (Or.inr (Or.inl ⟨by omega, by omega, zS, rfl, rfl⟩)))))⟩ | exact ⟨0, 0, 0, Or.inr (Or.inl ⟨by omega, by omega, by omega⟩)⟩ | exact ⟨0, 0, 0, Or.inr (Or.inr (Or.inr (Or.inr (Or.inr (Or.inr ⟨by omega, by omega, by omega, by omega, by omega, by omega⟩)))))⟩ | (exfalso; omega) | omega) (by first | exact Lo_h584 | exact ⟨st.1, st.2.1, st.2.2.2.2⟩ | exact Or.inl ⟨by omega, zF, st.2.2.1, st.2.2.2.1⟩ | exact Or.inr (Or.inr (Or.inl ⟨by omega, by omega, zC, st.2.2.1, st.2.2.2.1⟩)) | exact Or.inr (Or.inr (Or.inr (Or.inl ⟨by omega, by omega, zW, st.2.2.2.1⟩))) | exact Or.inr (Or.inr (Or.inr (Or.inr (Or.inl ⟨by omega, by omega, zJ, fun _ => st.2.2.1, st.2.2.2.1⟩)))) | exact Or.inr (Or.inr (Or.inr (Or.inr (Or.inr (Or.inl ⟨by omega, by omega, zS, st.2.2.1, st.2.2.2.1⟩))))) | exact ⟨_, _, _, Or.inl ⟨by omega, zF, rfl, rfl⟩⟩ | exact ⟨_, _, _, Or.inr (Or.inr (Or.inl ⟨by omega, by omega, zC, rfl, rfl⟩))⟩ | exact ⟨_, _, _, Or.inr (Or.inr (Or.inr (Or.inl ⟨by omega, by omega, zW, rfl⟩)))⟩ | exact ⟨_, _, _, Or.inr (Or.inr (Or.inr (Or.inr (Or.inl ⟨by omega, by omega, zJ, fun q => absurd q (by omega), rfl⟩))))⟩ | exact ⟨_, _, _, Or.inr (Or.inr (Or.inr (Or.inr (Or.inr (Or.inl ⟨by omega, by omega, zS, rfl, rfl⟩)))))⟩ | exact ⟨0, 0, 0, Or.inr (Or.inl ⟨by omega, by omega, by omega⟩)⟩ | exact ⟨0, 0, 0, Or.inr (Or.inr (Or.inr (Or.inr (Or.inr (Or.inr ⟨by omega, by omega, by omega, by omega, by omega, by omega⟩)))))⟩ | (exfalso; omega) | omega) Ln_h584 Sp_h584 Al_h584 Cu_h584)
          ·
            show wp l rho (d + 7) 49 35 [(2, 82), (0, 0), (0, 1), (0, 0), (0, 1), (9, 0)] [(0, 1)] h Q
            rw [show wc ((8 : Nat) : Int) = 26801 from by decide] at xp539
            refine w_istore (ls' := [(2, 82), (0, 0), (0, 1), (0, 0), (0, 1), (0, 1)]) gz_49_35 gm_49 rfl rfl rfl ?_
            refine w_iload_n gz_49_37 rfl ?_
            refine w_ifne (t := 65) gz_49_38 rfl (fun u586 => by exfalso; omega) (fun u586 => ?_)
            refine w_iload_n gz_49_41 rfl ?_
            refine w_ifne (t := 65) gz_49_42 rfl (fun u587 => ?_) (fun u587 => by exfalso; omega)
            refine w_iload_n gz_49_65 rfl ?_
            refine w_ifne (t := 87) gz_49_66 rfl (fun u588 => by exfalso; omega) (fun u588 => ?_)
            refine w_aload_n gz_49_69 rfl ?_
            refine v_getR (j := 2) gz_49_70 rfl is_82 rd_5 rfl (fun v589 ev589 tv589 => ?_)
            have sE73 : v589 = h 82 2 := by first | assumption | omega
            refine v_getI (j := 9) gz_49_73 rfl tv589 rd_4 rfl (fun v590 ev590 pv590 qv590 => ?_)
            have c76 : v590 = h (h 82 2) 9 := by rw [← sE73]; omega
            refine w_bipush gz_49_76 (by decide) ?_
            refine w_iclt (t := 87) gz_49_78 rfl (fun u591 => ?_) (fun u591 => ?_)
            ·
              have St5_ht592 : St5 h := ⟨by subst_vars; omega, by subst_vars; omega⟩
              refine w_aload_n gz_49_87 rfl ?_
              refine w_inv (k := 2) (as := []) (r := []) (x := 82) (ls0 := [(2, 82), (9, 0), (9, 0)]) gz_49_88 gm_37 rfl is_82 rd_5 rfl rfl rfl rfl rfl (c_Reader_nextToken9_f0 (d := (d + 5))  (cf.trans (by omega)) n_Al (fun h593 frh593 w594 w595 w596 xp597 xp598 Al_h593t599 Cu_h593t600 => ?_))
              have gh593 : my_fr [(4, 4), (4, 5), (4, 6), (4, 7), (4, 8), (4, 9), (5, 5), (5, 6), (5, 7), (5, 8), (5, 9), (32, -1), (33, -1), (34, -1), (35, -1), (36, -1), (37, -1), (38, -1), (39, -1)] h h593 := my_fr.tr my_fr.rf (frh593.mo rfl)
              have Ln_h593 : Ln h593 := Ln_ag (my_ag.fr frh593 rfl) n_Ln
              have Sp_h593 : Sp h593 wv := Sp_ag (my_ag.fr frh593 rfl) hwv n_Ln n_Sp
              have Lo_h593 : Lo h h593 := Lo_ag (my_ag.fr frh593 rfl) n_Ln (Lo_rf)
              have St5_h593 : St5 h593 := St5_ag (my_ag.fr frh593 rfl) n_Ln St5_ht592
              show wp l rho (d + 7) 49 91 [(2, 82), (0, 0), (0, 1), (0, 0), (0, 1), (0, 1)] [] h593 Q
              have xc601 := xp597 n_Cu
              have ck602 := Cu_s Cu_h593t600
              rw [show cs h593 = cs h from cs_eq (fun j => my_fr.at gh593 is_92 rfl) (my_fr.at gh593 is_82 rfl)] at ck602
              rw [show h593 82 7 = (sN (cs h) (h 82 7)) from xc601] at ck602
              refine w_iload_n gz_49_91 rfl ?_
              refine w_ifeq (t := 102) gz_49_92 rfl (fun u603 => ?_) (fun u603 => by exfalso; omega)
              refine w_iload_n gz_49_102 rfl ?_
              refine w_ifeq (t := 113) gz_49_103 rfl (fun u604 => by exfalso; omega) (fun u604 => ?_)
              refine w_aload_n gz_49_106 rfl ?_
              refine w_inv (k := 3) (as := []) (r := []) (x := 82) (ls0 := [(2, 82), (9, 0), (9, 0), (9, 0)]) gz_49_107 gm_52 rfl is_82 rd_5 rfl rfl rfl rfl rfl (c_Reader_readCut9_f0 (d := (d + 1))  (wv := wv) (((my_fr.at frh593 is_82 rfl).trans cf).trans (by omega)) (by first | assumption | omega) (by first | assumption | omega) Ln_h593 Sp_h593 St5_h593 Al_h593t599 Cu_h593t600 (fun h605 frh605 w606 w607 xp608 Ln_h605t609 Sp_h605t610 Al_h605t611 Cu_h605t612 => ?_) (fun h613 frh613 w614 xp615 xp616 Ln_h613t617 Sp_h613t618 Al_h613t619 Cu_h613t620 => ?_))
              ·
                have gh605 : my_fr [(4, 4), (4, 5), (4, 6), (4, 7), (4, 8), (4, 9), (5, 5), (5, 6), (5, 7), (5, 8), (5, 9), (32, -1), (33, -1), (34, -1), (35, -1), (36, -1), (37, -1), (38, -1), (39, -1)] h h605 := my_fr.tr gh593 (frh605.mo rfl)
                have Lo_h605 : Lo h h605 := Lo_ag (my_ag.fr frh605 rfl) Ln_h593 Lo_h593
                show wp l rho (d + 7) 49 110 [(2, 82), (0, 0), (0, 1), (0, 0), (0, 1), (0, 1)] [] h605 Q
                have tE621 : cs h593 = cs h := cs_eq (fun j => my_fr.at gh593 is_92 rfl) (my_fr.at gh593 is_82 rfl)
                rw [tE621] at xp608
                have ps622 : h593 82 7 = (sN (cs h) (h 82 7)) := xc601
                rw [ps622] at xp608
                have q2 : h593 82 2 = h 82 2 := my_fr.at frh593 is_82 rfl
                have q11 : h593 (h 82 2) 1 = h (h 82 2) 1 := my_fr.at frh593 n_Ln.2.2.2.1 rfl
                have q13 : h593 (h 82 2) 3 = h (h 82 2) 3 := my_fr.at frh593 n_Ln.2.2.2.1 rfl
                have q14 : h593 (h 82 2) 4 = h (h 82 2) 4 := my_fr.at frh593 n_Ln.2.2.2.1 rfl
                have q19 : h593 (h 82 2) 9 = h (h 82 2) 9 := my_fr.at frh593 n_Ln.2.2.2.1 rfl
                have qc : h593 2 = h 2 := funext (fun j => my_fr.at frh593 is_2 rfl)
                have zC := xp608
                simp only [q2, q11, q13, q14, q19, qc] at zC
                refine w_goto (t := 140) gz_49_110 rfl ?_
                have psR : h605 82 7 = h605 82 7 := (rfl : h605 82 7 = h605 82 7)
                have npsR : cs h605 = cs h := cs_eq (fun j => my_fr.at gh605 is_92 rfl) (my_fr.at gh605 is_82 rfl)
                have c623 := (rfl : h605 82 9 = h605 82 9)
                exact w_vret gz_49_140 gm_49 (k0 h605 (gh605) (by omega) (by omega) (by first | exact Lo_h605 | exact ⟨st.1, st.2.1, st.2.2.2.2⟩ | exact Or.inl ⟨by omega, zF, st.2.2.1, st.2.2.2.1⟩ | exact Or.inr (Or.inr (Or.inl ⟨by omega, by omega, zC, st.2.2.1, st.2.2.2.1⟩)) | exact Or.inr (Or.inr (Or.inr (Or.inl ⟨by omega, by omega, zW, st.2.2.2.1⟩))) | exact Or.inr (Or.inr (Or.inr (Or.inr (Or.inl ⟨by omega, by omega, zJ, fun _ => st.2.2.1, st.2.2.2.1⟩)))) | exact Or.inr (Or.inr (Or.inr (Or.inr (Or.inr (Or.inl ⟨by omega, by omega, zS, st.2.2.1, st.2.2.2.1⟩))))) | exact ⟨_, _, _, Or.inl ⟨by omega, zF, rfl, rfl⟩⟩ | exact ⟨_, _, _, Or.inr (Or.inr (Or.inl ⟨by omega, by omega, zC, rfl, rfl⟩))⟩ | exact ⟨_, _, _, Or.inr (Or.inr (Or.inr (Or.inl ⟨by omega, by omega, zW, rfl⟩)))⟩ | exact ⟨_, _, _, Or.inr (Or.inr (Or.inr (Or.inr (Or.inl ⟨by omega, by omega, zJ, fun q => absurd q (by omega), rfl⟩))))⟩ | exact ⟨_, _, _, Or.inr (Or.inr (Or.inr (Or.inr (Or.inr (Or.inl ⟨by omega, by omega, zS, rfl, rfl⟩)))))⟩ | exact ⟨0, 0, 0, Or.inr (Or.inl ⟨by omega, by omega, by omega⟩)⟩ | exact ⟨0, 0, 0, Or.inr (Or.inr (Or.inr (Or.inr (Or.inr (Or.inr ⟨by omega, by omega, by omega, by omega, by omega, by omega⟩)))))⟩ | (exfalso; omega) | omega) (by first | exact Lo_h605 | exact ⟨st.1, st.2.1, st.2.2.2.2⟩ | exact Or.inl ⟨by omega, zF, st.2.2.1, st.2.2.2.1⟩ | exact Or.inr (Or.inr (Or.inl ⟨by omega, by omega, zC, st.2.2.1, st.2.2.2.1⟩)) | exact Or.inr (Or.inr (Or.inr (Or.inl ⟨by omega, by omega, zW, st.2.2.2.1⟩))) | exact Or.inr (Or.inr (Or.inr (Or.inr (Or.inl ⟨by omega, by omega, zJ, fun _ => st.2.2.1, st.2.2.2.1⟩)))) | exact Or.inr (Or.inr (Or.inr (Or.inr (Or.inr (Or.inl ⟨by omega, by omega, zS, st.2.2.1, st.2.2.2.1⟩))))) | exact ⟨_, _, _, Or.inl ⟨by omega, zF, rfl, rfl⟩⟩ | exact ⟨_, _, _, Or.inr (Or.inr (Or.inl ⟨by omega, by omega, zC, rfl, rfl⟩))⟩ | exact ⟨_, _, _, Or.inr (Or.inr (Or.inr (Or.inl ⟨by omega, by omega, zW, rfl⟩)))⟩ | exact ⟨_, _, _, Or.inr (Or.inr (Or.inr (Or.inr (Or.inl ⟨by omega, by omega, zJ, fun q => absurd q (by omega), rfl⟩))))⟩ | exact ⟨_, _, _, Or.inr (Or.inr (Or.inr (Or.inr (Or.inr (Or.inl ⟨by omega, by omega, zS, rfl, rfl⟩)))))⟩ | exact ⟨0, 0, 0, Or.inr (Or.inl ⟨by omega, by omega, by omega⟩)⟩ | exact ⟨0, 0, 0, Or.inr (Or.inr (Or.inr (Or.inr (Or.inr (Or.inr ⟨by omega, by omega, by omega, by omega, by omega, by omega⟩)))))⟩ | (exfalso; omega) | omega) Ln_h605t609 Sp_h605t610 Al_h605t611 Cu_h605t612)
              ·
                have gh613 : my_fr [(4, 4), (4, 5), (4, 6), (4, 7), (4, 8), (4, 9), (5, 5), (5, 6), (5, 7), (5, 8), (5, 9), (32, -1), (33, -1), (34, -1), (35, -1), (36, -1), (37, -1), (38, -1), (39, -1)] h h613 := my_fr.tr gh593 (frh613.mo rfl)
                have Lo_h613 : Lo h h613 := Lo_ag (my_ag.fr frh613 rfl) Ln_h593 Lo_h593
                show wp l rho (d + 7) 49 110 [(2, 82), (0, 0), (0, 1), (0, 0), (0, 1), (0, 1)] [] h613 Q
                have tE624 : cs h593 = cs h := cs_eq (fun j => my_fr.at gh593 is_92 rfl) (my_fr.at gh593 is_82 rfl)
                rw [tE624] at xp615
                have ps625 : h593 82 7 = (sN (cs h) (h 82 7)) := xc601
                rw [ps625] at xp615
                have q2 : h593 82 2 = h 82 2 := my_fr.at frh593 is_82 rfl
                have q11 : h593 (h 82 2) 1 = h (h 82 2) 1 := my_fr.at frh593 n_Ln.2.2.2.1 rfl
                have q13 : h593 (h 82 2) 3 = h (h 82 2) 3 := my_fr.at frh593 n_Ln.2.2.2.1 rfl
                have q14 : h593 (h 82 2) 4 = h (h 82 2) 4 := my_fr.at frh593 n_Ln.2.2.2.1 rfl
                have q19 : h593 (h 82 2) 9 = h (h 82 2) 9 := my_fr.at frh593 n_Ln.2.2.2.1 rfl
                have qc : h593 2 = h 2 := funext (fun j => my_fr.at frh593 is_2 rfl)
                have zC := xp615
                simp only [q2, q11, q13, q14, q19, qc] at zC
                have st := xp616
                unfold Std at st
                simp only [q2, q11, q13, q14, q19, qc] at st
                refine w_goto (t := 140) gz_49_110 rfl ?_
                have psR : h613 82 7 = h613 82 7 := (rfl : h613 82 7 = h613 82 7)
                have npsR : cs h613 = cs h := cs_eq (fun j => my_fr.at gh613 is_92 rfl) (my_fr.at gh613 is_82 rfl)
                have c626 := w614
                exact w_vret gz_49_140 gm_49 (k1 h613 (gh613) (by omega) (by first | exact Lo_h613 | exact ⟨st.1, st.2.1, st.2.2.2.2⟩ | exact Or.inl ⟨by omega, zF, st.2.2.1, st.2.2.2.1⟩ | exact Or.inr (Or.inr (Or.inl ⟨by omega, by omega, zC, st.2.2.1, st.2.2.2.1⟩)) | exact Or.inr (Or.inr (Or.inr (Or.inl ⟨by omega, by omega, zW, st.2.2.2.1⟩))) | exact Or.inr (Or.inr (Or.inr (Or.inr (Or.inl ⟨by omega, by omega, zJ, fun _ => st.2.2.1, st.2.2.2.1⟩)))) | exact Or.inr (Or.inr (Or.inr (Or.inr (Or.inr (Or.inl ⟨by omega, by omega, zS, st.2.2.1, st.2.2.2.1⟩))))) | exact ⟨_, _, _, Or.inl ⟨by omega, zF, rfl, rfl⟩⟩ | exact ⟨_, _, _, Or.inr (Or.inr (Or.inl ⟨by omega, by omega, zC, rfl, rfl⟩))⟩ | exact ⟨_, _, _, Or.inr (Or.inr (Or.inr (Or.inl ⟨by omega, by omega, zW, rfl⟩)))⟩ | exact ⟨_, _, _, Or.inr (Or.inr (Or.inr (Or.inr (Or.inl ⟨by omega, by omega, zJ, fun q => absurd q (by omega), rfl⟩))))⟩ | exact ⟨_, _, _, Or.inr (Or.inr (Or.inr (Or.inr (Or.inr (Or.inl ⟨by omega, by omega, zS, rfl, rfl⟩)))))⟩ | exact ⟨0, 0, 0, Or.inr (Or.inl ⟨by omega, by omega, by omega⟩)⟩ | exact ⟨0, 0, 0, Or.inr (Or.inr (Or.inr (Or.inr (Or.inr (Or.inr ⟨by omega, by omega, by omega, by omega, by omega, by omega⟩)))))⟩ | (exfalso; omega) | omega) (by first | exact Lo_h613 | exact ⟨st.1, st.2.1, st.2.2.2.2⟩ | exact Or.inl ⟨by omega, zF, st.2.2.1, st.2.2.2.1⟩ | exact Or.inr (Or.inr (Or.inl ⟨by omega, by omega, zC, st.2.2.1, st.2.2.2.1⟩)) | exact Or.inr (Or.inr (Or.inr (Or.inl ⟨by omega, by omega, zW, st.2.2.2.1⟩))) | exact Or.inr (Or.inr (Or.inr (Or.inr (Or.inl ⟨by omega, by omega, zJ, fun _ => st.2.2.1, st.2.2.2.1⟩)))) | exact Or.inr (Or.inr (Or.inr (Or.inr (Or.inr (Or.inl ⟨by omega, by omega, zS, st.2.2.1, st.2.2.2.1⟩))))) | exact ⟨_, _, _, Or.inl ⟨by omega, zF, rfl, rfl⟩⟩ | exact ⟨_, _, _, Or.inr (Or.inr (Or.inl ⟨by omega, by omega, zC, rfl, rfl⟩))⟩ | exact ⟨_, _, _, Or.inr (Or.inr (Or.inr (Or.inl ⟨by omega, by omega, zW, rfl⟩)))⟩ | exact ⟨_, _, _, Or.inr (Or.inr (Or.inr (Or.inr (Or.inl ⟨by omega, by omega, zJ, fun q => absurd q (by omega), rfl⟩))))⟩ | exact ⟨_, _, _, Or.inr (Or.inr (Or.inr (Or.inr (Or.inr (Or.inl ⟨by omega, by omega, zS, rfl, rfl⟩)))))⟩ | exact ⟨0, 0, 0, Or.inr (Or.inl ⟨by omega, by omega, by omega⟩)⟩ | exact ⟨0, 0, 0, Or.inr (Or.inr (Or.inr (Or.inr (Or.inr (Or.inr ⟨by omega, by omega, by omega, by omega, by omega, by omega⟩)))))⟩ | (exfalso; omega) | omega) (by first | exact Lo_h613 | exact ⟨st.1, st.2.1, st.2.2.2.2⟩ | exact Or.inl ⟨by omega, zF, st.2.2.1, st.2.2.2.1⟩ | exact Or.inr (Or.inr (Or.inl ⟨by omega, by omega, zC, st.2.2.1, st.2.2.2.1⟩)) | exact Or.inr (Or.inr (Or.inr (Or.inl ⟨by omega, by omega, zW, st.2.2.2.1⟩))) | exact Or.inr (Or.inr (Or.inr (Or.inr (Or.inl ⟨by omega, by omega, zJ, fun _ => st.2.2.1, st.2.2.2.1⟩)))) | exact Or.inr (Or.inr (Or.inr (Or.inr (Or.inr (Or.inl ⟨by omega, by omega, zS, st.2.2.1, st.2.2.2.1⟩))))) | exact ⟨_, _, _, Or.inl ⟨by omega, zF, rfl, rfl⟩⟩ | exact ⟨_, _, _, Or.inr (Or.inr (Or.inl ⟨by omega, by omega, zC, rfl, rfl⟩))⟩ | exact ⟨_, _, _, Or.inr (Or.inr (Or.inr (Or.inl ⟨by omega, by omega, zW, rfl⟩)))⟩ | exact ⟨_, _, _, Or.inr (Or.inr (Or.inr (Or.inr (Or.inl ⟨by omega, by omega, zJ, fun q => absurd q (by omega), rfl⟩))))⟩ | exact ⟨_, _, _, Or.inr (Or.inr (Or.inr (Or.inr (Or.inr (Or.inl ⟨by omega, by omega, zS, rfl, rfl⟩)))))⟩ | exact ⟨0, 0, 0, Or.inr (Or.inl ⟨by omega, by omega, by omega⟩)⟩ | exact ⟨0, 0, 0, Or.inr (Or.inr (Or.inr (Or.inr (Or.inr (Or.inr ⟨by omega, by omega, by omega, by omega, by omega, by omega⟩)))))⟩ | (exfalso; omega) | omega) Ln_h613t617 Sp_h613t618 Al_h613t619 Cu_h613t620)
            ·
              refine w_aload_n gz_49_81 rfl ?_
              refine w_iconst gz_49_82 (by decide) ?_
              refine w_inv (k := 0) (as := [(0, 5)]) (r := []) (x := 82) (ls0 := [(2, 82), (0, 5)]) gz_49_83 gm_42 rfl is_82 rd_5 rfl rfl rfl rfl rfl ?_
              refine w_aload_n gz_42_0 rfl ?_
              refine v_getI (j := 9) gz_42_1 rfl is_82 rd_5 rfl (fun v627 ev627 pv627 qv627 => ?_)
              have zv627 := ev627.trans cf
              refine w_ifne (t := 20) gz_42_4 rfl (fun u628 => by exfalso; omega) (fun u628 => ?_)
              refine w_aload_n gz_42_7 rfl ?_
              refine w_iload_n gz_42_8 rfl ?_
              refine w_bipush gz_42_9 (by decide) ?_
              refine w_aload_n gz_42_11 rfl ?_
              refine v_getI (j := 7) gz_42_12 rfl is_82 rd_5 rfl (fun v629 ev629 pv629 qv629 => ?_)
              refine w_imul gz_42_15 ⟨by omega, by omega⟩ ?_
              refine w_iadd gz_42_16 ⟨by omega, by omega⟩ ?_
              refine v_putI (j := 9) gz_42_17 rfl is_82 rd_5 rfl (by omega) (by omega) rfl (fun h630 fh630 => ?_)
              have gh630 : my_fr [(4, 4), (4, 5), (4, 6), (4, 7), (4, 8), (4, 9), (5, 5), (5, 6), (5, 7), (5, 8), (5, 9), (32, -1), (33, -1), (34, -1), (35, -1), (36, -1), (37, -1), (38, -1), (39, -1)] h h630 := my_fr.up my_fr.rf is_82 fh630 rfl
              have Ln_h630 : Ln h630 := Ln_ag (my_ag.up fh630 is_82 rfl) n_Ln
              have Sp_h630 : Sp h630 wv := Sp_ag (my_ag.up fh630 is_82 rfl) hwv n_Ln n_Sp
              have Al_h630 : Al h630 := Al_ag (my_ag.up fh630 is_82 rfl) n_Al
              have Cu_h630 : Cu h630 := Cu_ag (my_ag.up fh630 is_82 rfl) n_Cu
              have Lo_h630 : Lo h h630 := Lo_ag (my_ag.up fh630 is_82 rfl) n_Ln (Lo_rf)
              refine w_vret gz_42_20 gm_42 ?_
              show wp l rho (d + 7) 49 86 [(2, 82), (0, 0), (0, 1), (0, 0), (0, 1), (0, 1)] [] h630 Q
              have psR : h630 82 7 = h 82 7 := ((my_up_fld fh630 (by decide)).trans (rfl : h 82 7 = h 82 7))
              have npsR : cs h630 = cs h := cs_eq (fun j => my_fr.at gh630 is_92 rfl) (my_fr.at gh630 is_82 rfl)
              have c631 := (my_up_self fh630)
              exact w_vret gz_49_86 gm_49 (k0 h630 (gh630) (by omega) (by omega) (by first | exact Lo_h630 | exact ⟨st.1, st.2.1, st.2.2.2.2⟩ | exact Or.inl ⟨by omega, zF, st.2.2.1, st.2.2.2.1⟩ | exact Or.inr (Or.inr (Or.inl ⟨by omega, by omega, zC, st.2.2.1, st.2.2.2.1⟩)) | exact Or.inr (Or.inr (Or.inr (Or.inl ⟨by omega, by omega, zW, st.2.2.2.1⟩))) | exact Or.inr (Or.inr (Or.inr (Or.inr (Or.inl ⟨by omega, by omega, zJ, fun _ => st.2.2.1, st.2.2.2.1⟩)))) | exact Or.inr (Or.inr (Or.inr (Or.inr (Or.inr (Or.inl ⟨by omega, by omega, zS, st.2.2.1, st.2.2.2.1⟩))))) | exact ⟨_, _, _, Or.inl ⟨by omega, zF, rfl, rfl⟩⟩ | exact ⟨_, _, _, Or.inr (Or.inr (Or.inl ⟨by omega, by omega, zC, rfl, rfl⟩))⟩ | exact ⟨_, _, _, Or.inr (Or.inr (Or.inr (Or.inl ⟨by omega, by omega, zW, rfl⟩)))⟩ | exact ⟨_, _, _, Or.inr (Or.inr (Or.inr (Or.inr (Or.inl ⟨by omega, by omega, zJ, fun q => absurd q (by omega), rfl⟩))))⟩ | exact ⟨_, _, _, Or.inr (Or.inr (Or.inr (Or.inr (Or.inr (Or.inl ⟨by omega, by omega, zS, rfl, rfl⟩)))))⟩ | exact ⟨0, 0, 0, Or.inr (Or.inl ⟨by omega, by omega, by omega⟩)⟩ | exact ⟨0, 0, 0, Or.inr (Or.inr (Or.inr (Or.inr (Or.inr (Or.inr ⟨by omega, by omega, by omega, by omega, by omega, by omega⟩)))))⟩ | (exfalso; omega) | omega) (by first | exact Lo_h630 | exact ⟨st.1, st.2.1, st.2.2.2.2⟩ | exact Or.inl ⟨by omega, zF, st.2.2.1, st.2.2.2.1⟩ | exact Or.inr (Or.inr (Or.inl ⟨by omega, by omega, zC, st.2.2.1, st.2.2.2.1⟩)) | exact Or.inr (Or.inr (Or.inr (Or.inl ⟨by omega, by omega, zW, st.2.2.2.1⟩))) | exact Or.inr (Or.inr (Or.inr (Or.inr (Or.inl ⟨by omega, by omega, zJ, fun _ => st.2.2.1, st.2.2.2.1⟩)))) | exact Or.inr (Or.inr (Or.inr (Or.inr (Or.inr (Or.inl ⟨by omega, by omega, zS, st.2.2.1, st.2.2.2.1⟩))))) | exact ⟨_, _, _, Or.inl ⟨by omega, zF, rfl, rfl⟩⟩ | exact ⟨_, _, _, Or.inr (Or.inr (Or.inl ⟨by omega, by omega, zC, rfl, rfl⟩))⟩ | exact ⟨_, _, _, Or.inr (Or.inr (Or.inr (Or.inl ⟨by omega, by omega, zW, rfl⟩)))⟩ | exact ⟨_, _, _, Or.inr (Or.inr (Or.inr (Or.inr (Or.inl ⟨by omega, by omega, zJ, fun q => absurd q (by omega), rfl⟩))))⟩ | exact ⟨_, _, _, Or.inr (Or.inr (Or.inr (Or.inr (Or.inr (Or.inl ⟨by omega, by omega, zS, rfl, rfl⟩)))))⟩ | exact ⟨0, 0, 0, Or.inr (Or.inl ⟨by omega, by omega, by omega⟩)⟩ | exact ⟨0, 0, 0, Or.inr (Or.inr (Or.inr (Or.inr (Or.inr (Or.inr ⟨by omega, by omega, by omega, by omega, by omega, by omega⟩)))))⟩ | (exfalso; omega) | omega) Ln_h630 Sp_h630 Al_h630 Cu_h630)
      ·
        show wp l rho (d + 7) 49 20 [(2, 82), (0, 0), (0, 1), (9, 0), (9, 0), (9, 0)] [(0, 1)] h Q
        rw [show wc ((6 : Nat) : Int) = 8422 from by decide] at xp432
        refine w_istore_n (ls' := [(2, 82), (0, 0), (0, 1), (0, 1), (9, 0), (9, 0)]) gz_49_20 gm_49 rfl rfl rfl ?_
        refine w_aload_n gz_49_21 rfl ?_
        refine w_ldcS gz_49_22 (by decide) ?_
        refine w_inv (k := 1) (as := [(3, ((7 : Nat) : Int))]) (r := []) (x := 82) (ls0 := [(2, 82), (3, ((7 : Nat) : Int)), (9, 0)]) gz_49_24 gm_41 rfl is_82 rd_5 rfl rfl rfl rfl rfl (c_Reader_isWord9_f0 (d := (d + 2)) (x1 := ((7 : Nat) : Int)) (by decide) (cf.trans (by omega)) n_Cu (fun w632 xp633 => ?_) (fun w634 w635 xp636 => ?_))
        ·
          show wp l rho (d + 7) 49 27 [(2, 82), (0, 0), (0, 1), (0, 1), (9, 0), (9, 0)] [(0, 0)] h Q
          rw [show wc ((7 : Nat) : Int) = 527412 from by decide] at xp633
          refine w_istore (ls' := [(2, 82), (0, 0), (0, 1), (0, 1), (0, 0), (9, 0)]) gz_49_27 gm_49 rfl rfl rfl ?_
          refine w_aload_n gz_49_29 rfl ?_
          refine w_ldcS gz_49_30 (by decide) ?_
          refine w_inv (k := 1) (as := [(3, ((8 : Nat) : Int))]) (r := []) (x := 82) (ls0 := [(2, 82), (3, ((8 : Nat) : Int)), (9, 0)]) gz_49_32 gm_41 rfl is_82 rd_5 rfl rfl rfl rfl rfl (c_Reader_isWord9_f0 (d := (d + 2)) (x1 := ((8 : Nat) : Int)) (by decide) (cf.trans (by omega)) n_Cu (fun w637 xp638 => ?_) (fun w639 w640 xp641 => ?_))
          ·
            show wp l rho (d + 7) 49 35 [(2, 82), (0, 0), (0, 1), (0, 1), (0, 0), (9, 0)] [(0, 0)] h Q
            rw [show wc ((8 : Nat) : Int) = 26801 from by decide] at xp638
            refine w_istore (ls' := [(2, 82), (0, 0), (0, 1), (0, 1), (0, 0), (0, 0)]) gz_49_35 gm_49 rfl rfl rfl ?_
            refine w_iload_n gz_49_37 rfl ?_
            refine w_ifne (t := 65) gz_49_38 rfl (fun u642 => by exfalso; omega) (fun u642 => ?_)
            refine w_iload_n gz_49_41 rfl ?_
            refine w_ifne (t := 65) gz_49_42 rfl (fun u643 => ?_) (fun u643 => by exfalso; omega)
            refine w_iload_n gz_49_65 rfl ?_
            refine w_ifne (t := 87) gz_49_66 rfl (fun u644 => by exfalso; omega) (fun u644 => ?_)
            refine w_aload_n gz_49_69 rfl ?_
            refine v_getR (j := 2) gz_49_70 rfl is_82 rd_5 rfl (fun v645 ev645 tv645 => ?_)
            have sE73 : v645 = h 82 2 := by first | assumption | omega
            refine v_getI (j := 9) gz_49_73 rfl tv645 rd_4 rfl (fun v646 ev646 pv646 qv646 => ?_)
            have c76 : v646 = h (h 82 2) 9 := by rw [← sE73]; omega
            refine w_bipush gz_49_76 (by decide) ?_
            refine w_iclt (t := 87) gz_49_78 rfl (fun u647 => ?_) (fun u647 => ?_)
            ·
              have St5_ht648 : St5 h := ⟨by subst_vars; omega, by subst_vars; omega⟩
              refine w_aload_n gz_49_87 rfl ?_
              refine w_inv (k := 2) (as := []) (r := []) (x := 82) (ls0 := [(2, 82), (9, 0), (9, 0)]) gz_49_88 gm_37 rfl is_82 rd_5 rfl rfl rfl rfl rfl (c_Reader_nextToken9_f0 (d := (d + 5))  (cf.trans (by omega)) n_Al (fun h649 frh649 w650 w651 w652 xp653 xp654 Al_h649t655 Cu_h649t656 => ?_))
              have gh649 : my_fr [(4, 4), (4, 5), (4, 6), (4, 7), (4, 8), (4, 9), (5, 5), (5, 6), (5, 7), (5, 8), (5, 9), (32, -1), (33, -1), (34, -1), (35, -1), (36, -1), (37, -1), (38, -1), (39, -1)] h h649 := my_fr.tr my_fr.rf (frh649.mo rfl)
              have Ln_h649 : Ln h649 := Ln_ag (my_ag.fr frh649 rfl) n_Ln
              have Sp_h649 : Sp h649 wv := Sp_ag (my_ag.fr frh649 rfl) hwv n_Ln n_Sp
              have Lo_h649 : Lo h h649 := Lo_ag (my_ag.fr frh649 rfl) n_Ln (Lo_rf)
              have St5_h649 : St5 h649 := St5_ag (my_ag.fr frh649 rfl) n_Ln St5_ht648
              show wp l rho (d + 7) 49 91 [(2, 82), (0, 0), (0, 1), (0, 1), (0, 0), (0, 0)] [] h649 Q
              have xc657 := xp653 n_Cu
              have ck658 := Cu_s Cu_h649t656
              rw [show cs h649 = cs h from cs_eq (fun j => my_fr.at gh649 is_92 rfl) (my_fr.at gh649 is_82 rfl)] at ck658
              rw [show h649 82 7 = (sN (cs h) (h 82 7)) from xc657] at ck658
              refine w_iload_n gz_49_91 rfl ?_
              refine w_ifeq (t := 102) gz_49_92 rfl (fun u659 => ?_) (fun u659 => by exfalso; omega)
              refine w_iload_n gz_49_102 rfl ?_
              refine w_ifeq (t := 113) gz_49_103 rfl (fun u660 => by exfalso; omega) (fun u660 => ?_)
              refine w_aload_n gz_49_106 rfl ?_
              refine w_inv (k := 3) (as := []) (r := []) (x := 82) (ls0 := [(2, 82), (9, 0), (9, 0), (9, 0)]) gz_49_107 gm_52 rfl is_82 rd_5 rfl rfl rfl rfl rfl (c_Reader_readCut9_f0 (d := (d + 1))  (wv := wv) (((my_fr.at frh649 is_82 rfl).trans cf).trans (by omega)) (by first | assumption | omega) (by first | assumption | omega) Ln_h649 Sp_h649 St5_h649 Al_h649t655 Cu_h649t656 (fun h661 frh661 w662 w663 xp664 Ln_h661t665 Sp_h661t666 Al_h661t667 Cu_h661t668 => ?_) (fun h669 frh669 w670 xp671 xp672 Ln_h669t673 Sp_h669t674 Al_h669t675 Cu_h669t676 => ?_))
              ·
                have gh661 : my_fr [(4, 4), (4, 5), (4, 6), (4, 7), (4, 8), (4, 9), (5, 5), (5, 6), (5, 7), (5, 8), (5, 9), (32, -1), (33, -1), (34, -1), (35, -1), (36, -1), (37, -1), (38, -1), (39, -1)] h h661 := my_fr.tr gh649 (frh661.mo rfl)
                have Lo_h661 : Lo h h661 := Lo_ag (my_ag.fr frh661 rfl) Ln_h649 Lo_h649
                show wp l rho (d + 7) 49 110 [(2, 82), (0, 0), (0, 1), (0, 1), (0, 0), (0, 0)] [] h661 Q
                have tE677 : cs h649 = cs h := cs_eq (fun j => my_fr.at gh649 is_92 rfl) (my_fr.at gh649 is_82 rfl)
                rw [tE677] at xp664
                have ps678 : h649 82 7 = (sN (cs h) (h 82 7)) := xc657
                rw [ps678] at xp664
                have q2 : h649 82 2 = h 82 2 := my_fr.at frh649 is_82 rfl
                have q11 : h649 (h 82 2) 1 = h (h 82 2) 1 := my_fr.at frh649 n_Ln.2.2.2.1 rfl
                have q13 : h649 (h 82 2) 3 = h (h 82 2) 3 := my_fr.at frh649 n_Ln.2.2.2.1 rfl
                have q14 : h649 (h 82 2) 4 = h (h 82 2) 4 := my_fr.at frh649 n_Ln.2.2.2.1 rfl
                have q19 : h649 (h 82 2) 9 = h (h 82 2) 9 := my_fr.at frh649 n_Ln.2.2.2.1 rfl
                have qc : h649 2 = h 2 := funext (fun j => my_fr.at frh649 is_2 rfl)
                have zC := xp664
                simp only [q2, q11, q13, q14, q19, qc] at zC
                refine w_goto (t := 140) gz_49_110 rfl ?_
                have psR : h661 82 7 = h661 82 7 := (rfl : h661 82 7 = h661 82 7)
                have npsR : cs h661 = cs h := cs_eq (fun j => my_fr.at gh661 is_92 rfl) (my_fr.at gh661 is_82 rfl)
                have c679 := (rfl : h661 82 9 = h661 82 9)
                exact w_vret gz_49_140 gm_49 (k0 h661 (gh661) (by omega) (by omega) (by first | exact Lo_h661 | exact ⟨st.1, st.2.1, st.2.2.2.2⟩ | exact Or.inl ⟨by omega, zF, st.2.2.1, st.2.2.2.1⟩ | exact Or.inr (Or.inr (Or.inl ⟨by omega, by omega, zC, st.2.2.1, st.2.2.2.1⟩)) | exact Or.inr (Or.inr (Or.inr (Or.inl ⟨by omega, by omega, zW, st.2.2.2.1⟩))) | exact Or.inr (Or.inr (Or.inr (Or.inr (Or.inl ⟨by omega, by omega, zJ, fun _ => st.2.2.1, st.2.2.2.1⟩)))) | exact Or.inr (Or.inr (Or.inr (Or.inr (Or.inr (Or.inl ⟨by omega, by omega, zS, st.2.2.1, st.2.2.2.1⟩))))) | exact ⟨_, _, _, Or.inl ⟨by omega, zF, rfl, rfl⟩⟩ | exact ⟨_, _, _, Or.inr (Or.inr (Or.inl ⟨by omega, by omega, zC, rfl, rfl⟩))⟩ | exact ⟨_, _, _, Or.inr (Or.inr (Or.inr (Or.inl ⟨by omega, by omega, zW, rfl⟩)))⟩ | exact ⟨_, _, _, Or.inr (Or.inr (Or.inr (Or.inr (Or.inl ⟨by omega, by omega, zJ, fun q => absurd q (by omega), rfl⟩))))⟩ | exact ⟨_, _, _, Or.inr (Or.inr (Or.inr (Or.inr (Or.inr (Or.inl ⟨by omega, by omega, zS, rfl, rfl⟩)))))⟩ | exact ⟨0, 0, 0, Or.inr (Or.inl ⟨by omega, by omega, by omega⟩)⟩ | exact ⟨0, 0, 0, Or.inr (Or.inr (Or.inr (Or.inr (Or.inr (Or.inr ⟨by omega, by omega, by omega, by omega, by omega, by omega⟩)))))⟩ | (exfalso; omega) | omega) (by first | exact Lo_h661 | exact ⟨st.1, st.2.1, st.2.2.2.2⟩ | exact Or.inl ⟨by omega, zF, st.2.2.1, st.2.2.2.1⟩ | exact Or.inr (Or.inr (Or.inl ⟨by omega, by omega, zC, st.2.2.1, st.2.2.2.1⟩)) | exact Or.inr (Or.inr (Or.inr (Or.inl ⟨by omega, by omega, zW, st.2.2.2.1⟩))) | exact Or.inr (Or.inr (Or.inr (Or.inr (Or.inl ⟨by omega, by omega, zJ, fun _ => st.2.2.1, st.2.2.2.1⟩)))) | exact Or.inr (Or.inr (Or.inr (Or.inr (Or.inr (Or.inl ⟨by omega, by omega, zS, st.2.2.1, st.2.2.2.1⟩))))) | exact ⟨_, _, _, Or.inl ⟨by omega, zF, rfl, rfl⟩⟩ | exact ⟨_, _, _, Or.inr (Or.inr (Or.inl ⟨by omega, by omega, zC, rfl, rfl⟩))⟩ | exact ⟨_, _, _, Or.inr (Or.inr (Or.inr (Or.inl ⟨by omega, by omega, zW, rfl⟩)))⟩ | exact ⟨_, _, _, Or.inr (Or.inr (Or.inr (Or.inr (Or.inl ⟨by omega, by omega, zJ, fun q => absurd q (by omega), rfl⟩))))⟩ | exact ⟨_, _, _, Or.inr (Or.inr (Or.inr (Or.inr (Or.inr (Or.inl ⟨by omega, by omega, zS, rfl, rfl⟩)))))⟩ | exact ⟨0, 0, 0, Or.inr (Or.inl ⟨by omega, by omega, by omega⟩)⟩ | exact ⟨0, 0, 0, Or.inr (Or.inr (Or.inr (Or.inr (Or.inr (Or.inr ⟨by omega, by omega, by omega, by omega, by omega, by omega⟩)))))⟩ | (exfalso; omega) | omega) Ln_h661t665 Sp_h661t666 Al_h661t667 Cu_h661t668)
              ·
                have gh669 : my_fr [(4, 4), (4, 5), (4, 6), (4, 7), (4, 8), (4, 9), (5, 5), (5, 6), (5, 7), (5, 8), (5, 9), (32, -1), (33, -1), (34, -1), (35, -1), (36, -1), (37, -1), (38, -1), (39, -1)] h h669 := my_fr.tr gh649 (frh669.mo rfl)
                have Lo_h669 : Lo h h669 := Lo_ag (my_ag.fr frh669 rfl) Ln_h649 Lo_h649
                show wp l rho (d + 7) 49 110 [(2, 82), (0, 0), (0, 1), (0, 1), (0, 0), (0, 0)] [] h669 Q
                have tE680 : cs h649 = cs h := cs_eq (fun j => my_fr.at gh649 is_92 rfl) (my_fr.at gh649 is_82 rfl)
                rw [tE680] at xp671
                have ps681 : h649 82 7 = (sN (cs h) (h 82 7)) := xc657
                rw [ps681] at xp671
                have q2 : h649 82 2 = h 82 2 := my_fr.at frh649 is_82 rfl
                have q11 : h649 (h 82 2) 1 = h (h 82 2) 1 := my_fr.at frh649 n_Ln.2.2.2.1 rfl
                have q13 : h649 (h 82 2) 3 = h (h 82 2) 3 := my_fr.at frh649 n_Ln.2.2.2.1 rfl
                have q14 : h649 (h 82 2) 4 = h (h 82 2) 4 := my_fr.at frh649 n_Ln.2.2.2.1 rfl
                have q19 : h649 (h 82 2) 9 = h (h 82 2) 9 := my_fr.at frh649 n_Ln.2.2.2.1 rfl
                have qc : h649 2 = h 2 := funext (fun j => my_fr.at frh649 is_2 rfl)
                have zC := xp671
                simp only [q2, q11, q13, q14, q19, qc] at zC
                have st := xp672
                unfold Std at st
                simp only [q2, q11, q13, q14, q19, qc] at st
                refine w_goto (t := 140) gz_49_110 rfl ?_
                have psR : h669 82 7 = h669 82 7 := (rfl : h669 82 7 = h669 82 7)
                have npsR : cs h669 = cs h := cs_eq (fun j => my_fr.at gh669 is_92 rfl) (my_fr.at gh669 is_82 rfl)
                have c682 := w670
                exact w_vret gz_49_140 gm_49 (k1 h669 (gh669) (by omega) (by first | exact Lo_h669 | exact ⟨st.1, st.2.1, st.2.2.2.2⟩ | exact Or.inl ⟨by omega, zF, st.2.2.1, st.2.2.2.1⟩ | exact Or.inr (Or.inr (Or.inl ⟨by omega, by omega, zC, st.2.2.1, st.2.2.2.1⟩)) | exact Or.inr (Or.inr (Or.inr (Or.inl ⟨by omega, by omega, zW, st.2.2.2.1⟩))) | exact Or.inr (Or.inr (Or.inr (Or.inr (Or.inl ⟨by omega, by omega, zJ, fun _ => st.2.2.1, st.2.2.2.1⟩)))) | exact Or.inr (Or.inr (Or.inr (Or.inr (Or.inr (Or.inl ⟨by omega, by omega, zS, st.2.2.1, st.2.2.2.1⟩))))) | exact ⟨_, _, _, Or.inl ⟨by omega, zF, rfl, rfl⟩⟩ | exact ⟨_, _, _, Or.inr (Or.inr (Or.inl ⟨by omega, by omega, zC, rfl, rfl⟩))⟩ | exact ⟨_, _, _, Or.inr (Or.inr (Or.inr (Or.inl ⟨by omega, by omega, zW, rfl⟩)))⟩ | exact ⟨_, _, _, Or.inr (Or.inr (Or.inr (Or.inr (Or.inl ⟨by omega, by omega, zJ, fun q => absurd q (by omega), rfl⟩))))⟩ | exact ⟨_, _, _, Or.inr (Or.inr (Or.inr (Or.inr (Or.inr (Or.inl ⟨by omega, by omega, zS, rfl, rfl⟩)))))⟩ | exact ⟨0, 0, 0, Or.inr (Or.inl ⟨by omega, by omega, by omega⟩)⟩ | exact ⟨0, 0, 0, Or.inr (Or.inr (Or.inr (Or.inr (Or.inr (Or.inr ⟨by omega, by omega, by omega, by omega, by omega, by omega⟩)))))⟩ | (exfalso; omega) | omega) (by first | exact Lo_h669 | exact ⟨st.1, st.2.1, st.2.2.2.2⟩ | exact Or.inl ⟨by omega, zF, st.2.2.1, st.2.2.2.1⟩ | exact Or.inr (Or.inr (Or.inl ⟨by omega, by omega, zC, st.2.2.1, st.2.2.2.1⟩)) | exact Or.inr (Or.inr (Or.inr (Or.inl ⟨by omega, by omega, zW, st.2.2.2.1⟩))) | exact Or.inr (Or.inr (Or.inr (Or.inr (Or.inl ⟨by omega, by omega, zJ, fun _ => st.2.2.1, st.2.2.2.1⟩)))) | exact Or.inr (Or.inr (Or.inr (Or.inr (Or.inr (Or.inl ⟨by omega, by omega, zS, st.2.2.1, st.2.2.2.1⟩))))) | exact ⟨_, _, _, Or.inl ⟨by omega, zF, rfl, rfl⟩⟩ | exact ⟨_, _, _, Or.inr (Or.inr (Or.inl ⟨by omega, by omega, zC, rfl, rfl⟩))⟩ | exact ⟨_, _, _, Or.inr (Or.inr (Or.inr (Or.inl ⟨by omega, by omega, zW, rfl⟩)))⟩ | exact ⟨_, _, _, Or.inr (Or.inr (Or.inr (Or.inr (Or.inl ⟨by omega, by omega, zJ, fun q => absurd q (by omega), rfl⟩))))⟩ | exact ⟨_, _, _, Or.inr (Or.inr (Or.inr (Or.inr (Or.inr (Or.inl ⟨by omega, by omega, zS, rfl, rfl⟩)))))⟩ | exact ⟨0, 0, 0, Or.inr (Or.inl ⟨by omega, by omega, by omega⟩)⟩ | exact ⟨0, 0, 0, Or.inr (Or.inr (Or.inr (Or.inr (Or.inr (Or.inr ⟨by omega, by omega, by omega, by omega, by omega, by omega⟩)))))⟩ | (exfalso; omega) | omega) (by first | exact Lo_h669 | exact ⟨st.1, st.2.1, st.2.2.2.2⟩ | exact Or.inl ⟨by omega, zF, st.2.2.1, st.2.2.2.1⟩ | exact Or.inr (Or.inr (Or.inl ⟨by omega, by omega, zC, st.2.2.1, st.2.2.2.1⟩)) | exact Or.inr (Or.inr (Or.inr (Or.inl ⟨by omega, by omega, zW, st.2.2.2.1⟩))) | exact Or.inr (Or.inr (Or.inr (Or.inr (Or.inl ⟨by omega, by omega, zJ, fun _ => st.2.2.1, st.2.2.2.1⟩)))) | exact Or.inr (Or.inr (Or.inr (Or.inr (Or.inr (Or.inl ⟨by omega, by omega, zS, st.2.2.1, st.2.2.2.1⟩))))) | exact ⟨_, _, _, Or.inl ⟨by omega, zF, rfl, rfl⟩⟩ | exact ⟨_, _, _, Or.inr (Or.inr (Or.inl ⟨by omega, by omega, zC, rfl, rfl⟩))⟩ | exact ⟨_, _, _, Or.inr (Or.inr (Or.inr (Or.inl ⟨by omega, by omega, zW, rfl⟩)))⟩ | exact ⟨_, _, _, Or.inr (Or.inr (Or.inr (Or.inr (Or.inl ⟨by omega, by omega, zJ, fun q => absurd q (by omega), rfl⟩))))⟩ | exact ⟨_, _, _, Or.inr (Or.inr (Or.inr (Or.inr (Or.inr (Or.inl ⟨by omega, by omega, zS, rfl, rfl⟩)))))⟩ | exact ⟨0, 0, 0, Or.inr (Or.inl ⟨by omega, by omega, by omega⟩)⟩ | exact ⟨0, 0, 0, Or.inr (Or.inr (Or.inr (Or.inr (Or.inr (Or.inr ⟨by omega, by omega, by omega, by omega, by omega, by omega⟩)))))⟩ | (exfalso; omega) | omega) Ln_h669t673 Sp_h669t674 Al_h669t675 Cu_h669t676)
            ·
              refine w_aload_n gz_49_81 rfl ?_
              refine w_iconst gz_49_82 (by decide) ?_
              refine w_inv (k := 0) (as := [(0, 5)]) (r := []) (x := 82) (ls0 := [(2, 82), (0, 5)]) gz_49_83 gm_42 rfl is_82 rd_5 rfl rfl rfl rfl rfl ?_
              refine w_aload_n gz_42_0 rfl ?_
              refine v_getI (j := 9) gz_42_1 rfl is_82 rd_5 rfl (fun v683 ev683 pv683 qv683 => ?_)
              have zv683 := ev683.trans cf
              refine w_ifne (t := 20) gz_42_4 rfl (fun u684 => by exfalso; omega) (fun u684 => ?_)
              refine w_aload_n gz_42_7 rfl ?_
              refine w_iload_n gz_42_8 rfl ?_
              refine w_bipush gz_42_9 (by decide) ?_
              refine w_aload_n gz_42_11 rfl ?_
              refine v_getI (j := 7) gz_42_12 rfl is_82 rd_5 rfl (fun v685 ev685 pv685 qv685 => ?_)
              refine w_imul gz_42_15 ⟨by omega, by omega⟩ ?_
              refine w_iadd gz_42_16 ⟨by omega, by omega⟩ ?_
              refine v_putI (j := 9) gz_42_17 rfl is_82 rd_5 rfl (by omega) (by omega) rfl (fun h686 fh686 => ?_)
              have gh686 : my_fr [(4, 4), (4, 5), (4, 6), (4, 7), (4, 8), (4, 9), (5, 5), (5, 6), (5, 7), (5, 8), (5, 9), (32, -1), (33, -1), (34, -1), (35, -1), (36, -1), (37, -1), (38, -1), (39, -1)] h h686 := my_fr.up my_fr.rf is_82 fh686 rfl
              have Ln_h686 : Ln h686 := Ln_ag (my_ag.up fh686 is_82 rfl) n_Ln
              have Sp_h686 : Sp h686 wv := Sp_ag (my_ag.up fh686 is_82 rfl) hwv n_Ln n_Sp
              have Al_h686 : Al h686 := Al_ag (my_ag.up fh686 is_82 rfl) n_Al
              have Cu_h686 : Cu h686 := Cu_ag (my_ag.up fh686 is_82 rfl) n_Cu
              have Lo_h686 : Lo h h686 := Lo_ag (my_ag.up fh686 is_82 rfl) n_Ln (Lo_rf)
              refine w_vret gz_42_20 gm_42 ?_
              show wp l rho (d + 7) 49 86 [(2, 82), (0, 0), (0, 1), (0, 1), (0, 0), (0, 0)] [] h686 Q
              have psR : h686 82 7 = h 82 7 := ((my_up_fld fh686 (by decide)).trans (rfl : h 82 7 = h 82 7))
              have npsR : cs h686 = cs h := cs_eq (fun j => my_fr.at gh686 is_92 rfl) (my_fr.at gh686 is_82 rfl)
              have c687 := (my_up_self fh686)
              exact w_vret gz_49_86 gm_49 (k0 h686 (gh686) (by omega) (by omega) (by first | exact Lo_h686 | exact ⟨st.1, st.2.1, st.2.2.2.2⟩ | exact Or.inl ⟨by omega, zF, st.2.2.1, st.2.2.2.1⟩ | exact Or.inr (Or.inr (Or.inl ⟨by omega, by omega, zC, st.2.2.1, st.2.2.2.1⟩)) | exact Or.inr (Or.inr (Or.inr (Or.inl ⟨by omega, by omega, zW, st.2.2.2.1⟩))) | exact Or.inr (Or.inr (Or.inr (Or.inr (Or.inl ⟨by omega, by omega, zJ, fun _ => st.2.2.1, st.2.2.2.1⟩)))) | exact Or.inr (Or.inr (Or.inr (Or.inr (Or.inr (Or.inl ⟨by omega, by omega, zS, st.2.2.1, st.2.2.2.1⟩))))) | exact ⟨_, _, _, Or.inl ⟨by omega, zF, rfl, rfl⟩⟩ | exact ⟨_, _, _, Or.inr (Or.inr (Or.inl ⟨by omega, by omega, zC, rfl, rfl⟩))⟩ | exact ⟨_, _, _, Or.inr (Or.inr (Or.inr (Or.inl ⟨by omega, by omega, zW, rfl⟩)))⟩ | exact ⟨_, _, _, Or.inr (Or.inr (Or.inr (Or.inr (Or.inl ⟨by omega, by omega, zJ, fun q => absurd q (by omega), rfl⟩))))⟩ | exact ⟨_, _, _, Or.inr (Or.inr (Or.inr (Or.inr (Or.inr (Or.inl ⟨by omega, by omega, zS, rfl, rfl⟩)))))⟩ | exact ⟨0, 0, 0, Or.inr (Or.inl ⟨by omega, by omega, by omega⟩)⟩ | exact ⟨0, 0, 0, Or.inr (Or.inr (Or.inr (Or.inr (Or.inr (Or.inr ⟨by omega, by omega, by omega, by omega, by omega, by omega⟩)))))⟩ | (exfalso; omega) | omega) (by first | exact Lo_h686 | exact ⟨st.1, st.2.1, st.2.2.2.2⟩ | exact Or.inl ⟨by omega, zF, st.2.2.1, st.2.2.2.1⟩ | exact Or.inr (Or.inr (Or.inl ⟨by omega, by omega, zC, st.2.2.1, st.2.2.2.1⟩)) | exact Or.inr (Or.inr (Or.inr (Or.inl ⟨by omega, by omega, zW, st.2.2.2.1⟩))) | exact Or.inr (Or.inr (Or.inr (Or.inr (Or.inl ⟨by omega, by omega, zJ, fun _ => st.2.2.1, st.2.2.2.1⟩)))) | exact Or.inr (Or.inr (Or.inr (Or.inr (Or.inr (Or.inl ⟨by omega, by omega, zS, st.2.2.1, st.2.2.2.1⟩))))) | exact ⟨_, _, _, Or.inl ⟨by omega, zF, rfl, rfl⟩⟩ | exact ⟨_, _, _, Or.inr (Or.inr (Or.inl ⟨by omega, by omega, zC, rfl, rfl⟩))⟩ | exact ⟨_, _, _, Or.inr (Or.inr (Or.inr (Or.inl ⟨by omega, by omega, zW, rfl⟩)))⟩ | exact ⟨_, _, _, Or.inr (Or.inr (Or.inr (Or.inr (Or.inl ⟨by omega, by omega, zJ, fun q => absurd q (by omega), rfl⟩))))⟩ | exact ⟨_, _, _, Or.inr (Or.inr (Or.inr (Or.inr (Or.inr (Or.inl ⟨by omega, by omega, zS, rfl, rfl⟩)))))⟩ | exact ⟨0, 0, 0, Or.inr (Or.inl ⟨by omega, by omega, by omega⟩)⟩ | exact ⟨0, 0, 0, Or.inr (Or.inr (Or.inr (Or.inr (Or.inr (Or.inr ⟨by omega, by omega, by omega, by omega, by omega, by omega⟩)))))⟩ | (exfalso; omega) | omega) Ln_h686 Sp_h686 Al_h686 Cu_h686)
          ·
            show wp l rho (d + 7) 49 35 [(2, 82), (0, 0), (0, 1), (0, 1), (0, 0), (9, 0)] [(0, 1)] h Q
            rw [show wc ((8 : Nat) : Int) = 26801 from by decide] at xp641
            refine w_istore (ls' := [(2, 82), (0, 0), (0, 1), (0, 1), (0, 0), (0, 1)]) gz_49_35 gm_49 rfl rfl rfl ?_
            refine w_iload_n gz_49_37 rfl ?_
            refine w_ifne (t := 65) gz_49_38 rfl (fun u688 => by exfalso; omega) (fun u688 => ?_)
            refine w_iload_n gz_49_41 rfl ?_
            refine w_ifne (t := 65) gz_49_42 rfl (fun u689 => ?_) (fun u689 => by exfalso; omega)
            refine w_iload_n gz_49_65 rfl ?_
            refine w_ifne (t := 87) gz_49_66 rfl (fun u690 => by exfalso; omega) (fun u690 => ?_)
            refine w_aload_n gz_49_69 rfl ?_
            refine v_getR (j := 2) gz_49_70 rfl is_82 rd_5 rfl (fun v691 ev691 tv691 => ?_)
            have sE73 : v691 = h 82 2 := by first | assumption | omega
            refine v_getI (j := 9) gz_49_73 rfl tv691 rd_4 rfl (fun v692 ev692 pv692 qv692 => ?_)
            have c76 : v692 = h (h 82 2) 9 := by rw [← sE73]; omega
            refine w_bipush gz_49_76 (by decide) ?_
            refine w_iclt (t := 87) gz_49_78 rfl (fun u693 => ?_) (fun u693 => ?_)
            ·
              have St5_ht694 : St5 h := ⟨by subst_vars; omega, by subst_vars; omega⟩
              refine w_aload_n gz_49_87 rfl ?_
              refine w_inv (k := 2) (as := []) (r := []) (x := 82) (ls0 := [(2, 82), (9, 0), (9, 0)]) gz_49_88 gm_37 rfl is_82 rd_5 rfl rfl rfl rfl rfl (c_Reader_nextToken9_f0 (d := (d + 5))  (cf.trans (by omega)) n_Al (fun h695 frh695 w696 w697 w698 xp699 xp700 Al_h695t701 Cu_h695t702 => ?_))
              have gh695 : my_fr [(4, 4), (4, 5), (4, 6), (4, 7), (4, 8), (4, 9), (5, 5), (5, 6), (5, 7), (5, 8), (5, 9), (32, -1), (33, -1), (34, -1), (35, -1), (36, -1), (37, -1), (38, -1), (39, -1)] h h695 := my_fr.tr my_fr.rf (frh695.mo rfl)
              have Ln_h695 : Ln h695 := Ln_ag (my_ag.fr frh695 rfl) n_Ln
              have Sp_h695 : Sp h695 wv := Sp_ag (my_ag.fr frh695 rfl) hwv n_Ln n_Sp
              have Lo_h695 : Lo h h695 := Lo_ag (my_ag.fr frh695 rfl) n_Ln (Lo_rf)
              have St5_h695 : St5 h695 := St5_ag (my_ag.fr frh695 rfl) n_Ln St5_ht694
              show wp l rho (d + 7) 49 91 [(2, 82), (0, 0), (0, 1), (0, 1), (0, 0), (0, 1)] [] h695 Q
              have xc703 := xp699 n_Cu
              have ck704 := Cu_s Cu_h695t702
              rw [show cs h695 = cs h from cs_eq (fun j => my_fr.at gh695 is_92 rfl) (my_fr.at gh695 is_82 rfl)] at ck704
              rw [show h695 82 7 = (sN (cs h) (h 82 7)) from xc703] at ck704
              refine w_iload_n gz_49_91 rfl ?_
              refine w_ifeq (t := 102) gz_49_92 rfl (fun u705 => ?_) (fun u705 => by exfalso; omega)
              refine w_iload_n gz_49_102 rfl ?_
              refine w_ifeq (t := 113) gz_49_103 rfl (fun u706 => by exfalso; omega) (fun u706 => ?_)
              refine w_aload_n gz_49_106 rfl ?_
              refine w_inv (k := 3) (as := []) (r := []) (x := 82) (ls0 := [(2, 82), (9, 0), (9, 0), (9, 0)]) gz_49_107 gm_52 rfl is_82 rd_5 rfl rfl rfl rfl rfl (c_Reader_readCut9_f0 (d := (d + 1))  (wv := wv) (((my_fr.at frh695 is_82 rfl).trans cf).trans (by omega)) (by first | assumption | omega) (by first | assumption | omega) Ln_h695 Sp_h695 St5_h695 Al_h695t701 Cu_h695t702 (fun h707 frh707 w708 w709 xp710 Ln_h707t711 Sp_h707t712 Al_h707t713 Cu_h707t714 => ?_) (fun h715 frh715 w716 xp717 xp718 Ln_h715t719 Sp_h715t720 Al_h715t721 Cu_h715t722 => ?_))
              ·
                have gh707 : my_fr [(4, 4), (4, 5), (4, 6), (4, 7), (4, 8), (4, 9), (5, 5), (5, 6), (5, 7), (5, 8), (5, 9), (32, -1), (33, -1), (34, -1), (35, -1), (36, -1), (37, -1), (38, -1), (39, -1)] h h707 := my_fr.tr gh695 (frh707.mo rfl)
                have Lo_h707 : Lo h h707 := Lo_ag (my_ag.fr frh707 rfl) Ln_h695 Lo_h695
                show wp l rho (d + 7) 49 110 [(2, 82), (0, 0), (0, 1), (0, 1), (0, 0), (0, 1)] [] h707 Q
                have tE723 : cs h695 = cs h := cs_eq (fun j => my_fr.at gh695 is_92 rfl) (my_fr.at gh695 is_82 rfl)
                rw [tE723] at xp710
                have ps724 : h695 82 7 = (sN (cs h) (h 82 7)) := xc703
                rw [ps724] at xp710
                have q2 : h695 82 2 = h 82 2 := my_fr.at frh695 is_82 rfl
                have q11 : h695 (h 82 2) 1 = h (h 82 2) 1 := my_fr.at frh695 n_Ln.2.2.2.1 rfl
                have q13 : h695 (h 82 2) 3 = h (h 82 2) 3 := my_fr.at frh695 n_Ln.2.2.2.1 rfl
                have q14 : h695 (h 82 2) 4 = h (h 82 2) 4 := my_fr.at frh695 n_Ln.2.2.2.1 rfl
                have q19 : h695 (h 82 2) 9 = h (h 82 2) 9 := my_fr.at frh695 n_Ln.2.2.2.1 rfl
                have qc : h695 2 = h 2 := funext (fun j => my_fr.at frh695 is_2 rfl)
                have zC := xp710
                simp only [q2, q11, q13, q14, q19, qc] at zC
                refine w_goto (t := 140) gz_49_110 rfl ?_
                have psR : h707 82 7 = h707 82 7 := (rfl : h707 82 7 = h707 82 7)
                have npsR : cs h707 = cs h := cs_eq (fun j => my_fr.at gh707 is_92 rfl) (my_fr.at gh707 is_82 rfl)
                have c725 := (rfl : h707 82 9 = h707 82 9)
                exact w_vret gz_49_140 gm_49 (k0 h707 (gh707) (by omega) (by omega) (by first | exact Lo_h707 | exact ⟨st.1, st.2.1, st.2.2.2.2⟩ | exact Or.inl ⟨by omega, zF, st.2.2.1, st.2.2.2.1⟩ | exact Or.inr (Or.inr (Or.inl ⟨by omega, by omega, zC, st.2.2.1, st.2.2.2.1⟩)) | exact Or.inr (Or.inr (Or.inr (Or.inl ⟨by omega, by omega, zW, st.2.2.2.1⟩))) | exact Or.inr (Or.inr (Or.inr (Or.inr (Or.inl ⟨by omega, by omega, zJ, fun _ => st.2.2.1, st.2.2.2.1⟩)))) | exact Or.inr (Or.inr (Or.inr (Or.inr (Or.inr (Or.inl ⟨by omega, by omega, zS, st.2.2.1, st.2.2.2.1⟩))))) | exact ⟨_, _, _, Or.inl ⟨by omega, zF, rfl, rfl⟩⟩ | exact ⟨_, _, _, Or.inr (Or.inr (Or.inl ⟨by omega, by omega, zC, rfl, rfl⟩))⟩ | exact ⟨_, _, _, Or.inr (Or.inr (Or.inr (Or.inl ⟨by omega, by omega, zW, rfl⟩)))⟩ | exact ⟨_, _, _, Or.inr (Or.inr (Or.inr (Or.inr (Or.inl ⟨by omega, by omega, zJ, fun q => absurd q (by omega), rfl⟩))))⟩ | exact ⟨_, _, _, Or.inr (Or.inr (Or.inr (Or.inr (Or.inr (Or.inl ⟨by omega, by omega, zS, rfl, rfl⟩)))))⟩ | exact ⟨0, 0, 0, Or.inr (Or.inl ⟨by omega, by omega, by omega⟩)⟩ | exact ⟨0, 0, 0, Or.inr (Or.inr (Or.inr (Or.inr (Or.inr (Or.inr ⟨by omega, by omega, by omega, by omega, by omega, by omega⟩)))))⟩ | (exfalso; omega) | omega) (by first | exact Lo_h707 | exact ⟨st.1, st.2.1, st.2.2.2.2⟩ | exact Or.inl ⟨by omega, zF, st.2.2.1, st.2.2.2.1⟩ | exact Or.inr (Or.inr (Or.inl ⟨by omega, by omega, zC, st.2.2.1, st.2.2.2.1⟩)) | exact Or.inr (Or.inr (Or.inr (Or.inl ⟨by omega, by omega, zW, st.2.2.2.1⟩))) | exact Or.inr (Or.inr (Or.inr (Or.inr (Or.inl ⟨by omega, by omega, zJ, fun _ => st.2.2.1, st.2.2.2.1⟩)))) | exact Or.inr (Or.inr (Or.inr (Or.inr (Or.inr (Or.inl ⟨by omega, by omega, zS, st.2.2.1, st.2.2.2.1⟩))))) | exact ⟨_, _, _, Or.inl ⟨by omega, zF, rfl, rfl⟩⟩ | exact ⟨_, _, _, Or.inr (Or.inr (Or.inl ⟨by omega, by omega, zC, rfl, rfl⟩))⟩ | exact ⟨_, _, _, Or.inr (Or.inr (Or.inr (Or.inl ⟨by omega, by omega, zW, rfl⟩)))⟩ | exact ⟨_, _, _, Or.inr (Or.inr (Or.inr (Or.inr (Or.inl ⟨by omega, by omega, zJ, fun q => absurd q (by omega), rfl⟩))))⟩ | exact ⟨_, _, _, Or.inr (Or.inr (Or.inr (Or.inr (Or.inr (Or.inl ⟨by omega, by omega, zS, rfl, rfl⟩)))))⟩ | exact ⟨0, 0, 0, Or.inr (Or.inl ⟨by omega, by omega, by omega⟩)⟩ | exact ⟨0, 0, 0, Or.inr (Or.inr (Or.inr (Or.inr (Or.inr (Or.inr ⟨by omega, by omega, by omega, by omega, by omega, by omega⟩)))))⟩ | (exfalso; omega) | omega) Ln_h707t711 Sp_h707t712 Al_h707t713 Cu_h707t714)
              ·
                have gh715 : my_fr [(4, 4), (4, 5), (4, 6), (4, 7), (4, 8), (4, 9), (5, 5), (5, 6), (5, 7), (5, 8), (5, 9), (32, -1), (33, -1), (34, -1), (35, -1), (36, -1), (37, -1), (38, -1), (39, -1)] h h715 := my_fr.tr gh695 (frh715.mo rfl)
                have Lo_h715 : Lo h h715 := Lo_ag (my_ag.fr frh715 rfl) Ln_h695 Lo_h695
                show wp l rho (d + 7) 49 110 [(2, 82), (0, 0), (0, 1), (0, 1), (0, 0), (0, 1)] [] h715 Q
                have tE726 : cs h695 = cs h := cs_eq (fun j => my_fr.at gh695 is_92 rfl) (my_fr.at gh695 is_82 rfl)
                rw [tE726] at xp717
                have ps727 : h695 82 7 = (sN (cs h) (h 82 7)) := xc703
                rw [ps727] at xp717
                have q2 : h695 82 2 = h 82 2 := my_fr.at frh695 is_82 rfl
                have q11 : h695 (h 82 2) 1 = h (h 82 2) 1 := my_fr.at frh695 n_Ln.2.2.2.1 rfl
                have q13 : h695 (h 82 2) 3 = h (h 82 2) 3 := my_fr.at frh695 n_Ln.2.2.2.1 rfl
                have q14 : h695 (h 82 2) 4 = h (h 82 2) 4 := my_fr.at frh695 n_Ln.2.2.2.1 rfl
                have q19 : h695 (h 82 2) 9 = h (h 82 2) 9 := my_fr.at frh695 n_Ln.2.2.2.1 rfl
                have qc : h695 2 = h 2 := funext (fun j => my_fr.at frh695 is_2 rfl)
                have zC := xp717
                simp only [q2, q11, q13, q14, q19, qc] at zC
                have st := xp718
                unfold Std at st
                simp only [q2, q11, q13, q14, q19, qc] at st
                refine w_goto (t := 140) gz_49_110 rfl ?_
                have psR : h715 82 7 = h715 82 7 := (rfl : h715 82 7 = h715 82 7)
                have npsR : cs h715 = cs h := cs_eq (fun j => my_fr.at gh715 is_92 rfl) (my_fr.at gh715 is_82 rfl)
                have c728 := w716
                exact w_vret gz_49_140 gm_49 (k1 h715 (gh715) (by omega) (by first | exact Lo_h715 | exact ⟨st.1, st.2.1, st.2.2.2.2⟩ | exact Or.inl ⟨by omega, zF, st.2.2.1, st.2.2.2.1⟩ | exact Or.inr (Or.inr (Or.inl ⟨by omega, by omega, zC, st.2.2.1, st.2.2.2.1⟩)) | exact Or.inr (Or.inr (Or.inr (Or.inl ⟨by omega, by omega, zW, st.2.2.2.1⟩))) | exact Or.inr (Or.inr (Or.inr (Or.inr (Or.inl ⟨by omega, by omega, zJ, fun _ => st.2.2.1, st.2.2.2.1⟩)))) | exact Or.inr (Or.inr (Or.inr (Or.inr (Or.inr (Or.inl ⟨by omega, by omega, zS, st.2.2.1, st.2.2.2.1⟩))))) | exact ⟨_, _, _, Or.inl ⟨by omega, zF, rfl, rfl⟩⟩ | exact ⟨_, _, _, Or.inr (Or.inr (Or.inl ⟨by omega, by omega, zC, rfl, rfl⟩))⟩ | exact ⟨_, _, _, Or.inr (Or.inr (Or.inr (Or.inl ⟨by omega, by omega, zW, rfl⟩)))⟩ | exact ⟨_, _, _, Or.inr (Or.inr (Or.inr (Or.inr (Or.inl ⟨by omega, by omega, zJ, fun q => absurd q (by omega), rfl⟩))))⟩ | exact ⟨_, _, _, Or.inr (Or.inr (Or.inr (Or.inr (Or.inr (Or.inl ⟨by omega, by omega, zS, rfl, rfl⟩)))))⟩ | exact ⟨0, 0, 0, Or.inr (Or.inl ⟨by omega, by omega, by omega⟩)⟩ | exact ⟨0, 0, 0, Or.inr (Or.inr (Or.inr (Or.inr (Or.inr (Or.inr ⟨by omega, by omega, by omega, by omega, by omega, by omega⟩)))))⟩ | (exfalso; omega) | omega) (by first | exact Lo_h715 | exact ⟨st.1, st.2.1, st.2.2.2.2⟩ | exact Or.inl ⟨by omega, zF, st.2.2.1, st.2.2.2.1⟩ | exact Or.inr (Or.inr (Or.inl ⟨by omega, by omega, zC, st.2.2.1, st.2.2.2.1⟩)) | exact Or.inr (Or.inr (Or.inr (Or.inl ⟨by omega, by omega, zW, st.2.2.2.1⟩))) | exact Or.inr (Or.inr (Or.inr (Or.inr (Or.inl ⟨by omega, by omega, zJ, fun _ => st.2.2.1, st.2.2.2.1⟩)))) | exact Or.inr (Or.inr (Or.inr (Or.inr (Or.inr (Or.inl ⟨by omega, by omega, zS, st.2.2.1, st.2.2.2.1⟩))))) | exact ⟨_, _, _, Or.inl ⟨by omega, zF, rfl, rfl⟩⟩ | exact ⟨_, _, _, Or.inr (Or.inr (Or.inl ⟨by omega, by omega, zC, rfl, rfl⟩))⟩ | exact ⟨_, _, _, Or.inr (Or.inr (Or.inr (Or.inl ⟨by omega, by omega, zW, rfl⟩)))⟩ | exact ⟨_, _, _, Or.inr (Or.inr (Or.inr (Or.inr (Or.inl ⟨by omega, by omega, zJ, fun q => absurd q (by omega), rfl⟩))))⟩ | exact ⟨_, _, _, Or.inr (Or.inr (Or.inr (Or.inr (Or.inr (Or.inl ⟨by omega, by omega, zS, rfl, rfl⟩)))))⟩ | exact ⟨0, 0, 0, Or.inr (Or.inl ⟨by omega, by omega, by omega⟩)⟩ | exact ⟨0, 0, 0, Or.inr (Or.inr (Or.inr (Or.inr (Or.inr (Or.inr ⟨by omega, by omega, by omega, by omega, by omega, by omega⟩)))))⟩ | (exfalso; omega) | omega) (by first | exact Lo_h715 | exact ⟨st.1, st.2.1, st.2.2.2.2⟩ | exact Or.inl ⟨by omega, zF, st.2.2.1, st.2.2.2.1⟩ | exact Or.inr (Or.inr (Or.inl ⟨by omega, by omega, zC, st.2.2.1, st.2.2.2.1⟩)) | exact Or.inr (Or.inr (Or.inr (Or.inl ⟨by omega, by omega, zW, st.2.2.2.1⟩))) | exact Or.inr (Or.inr (Or.inr (Or.inr (Or.inl ⟨by omega, by omega, zJ, fun _ => st.2.2.1, st.2.2.2.1⟩)))) | exact Or.inr (Or.inr (Or.inr (Or.inr (Or.inr (Or.inl ⟨by omega, by omega, zS, st.2.2.1, st.2.2.2.1⟩))))) | exact ⟨_, _, _, Or.inl ⟨by omega, zF, rfl, rfl⟩⟩ | exact ⟨_, _, _, Or.inr (Or.inr (Or.inl ⟨by omega, by omega, zC, rfl, rfl⟩))⟩ | exact ⟨_, _, _, Or.inr (Or.inr (Or.inr (Or.inl ⟨by omega, by omega, zW, rfl⟩)))⟩ | exact ⟨_, _, _, Or.inr (Or.inr (Or.inr (Or.inr (Or.inl ⟨by omega, by omega, zJ, fun q => absurd q (by omega), rfl⟩))))⟩ | exact ⟨_, _, _, Or.inr (Or.inr (Or.inr (Or.inr (Or.inr (Or.inl ⟨by omega, by omega, zS, rfl, rfl⟩)))))⟩ | exact ⟨0, 0, 0, Or.inr (Or.inl ⟨by omega, by omega, by omega⟩)⟩ | exact ⟨0, 0, 0, Or.inr (Or.inr (Or.inr (Or.inr (Or.inr (Or.inr ⟨by omega, by omega, by omega, by omega, by omega, by omega⟩)))))⟩ | (exfalso; omega) | omega) Ln_h715t719 Sp_h715t720 Al_h715t721 Cu_h715t722)
            ·
              refine w_aload_n gz_49_81 rfl ?_
              refine w_iconst gz_49_82 (by decide) ?_
              refine w_inv (k := 0) (as := [(0, 5)]) (r := []) (x := 82) (ls0 := [(2, 82), (0, 5)]) gz_49_83 gm_42 rfl is_82 rd_5 rfl rfl rfl rfl rfl ?_
              refine w_aload_n gz_42_0 rfl ?_
              refine v_getI (j := 9) gz_42_1 rfl is_82 rd_5 rfl (fun v729 ev729 pv729 qv729 => ?_)
              have zv729 := ev729.trans cf
              refine w_ifne (t := 20) gz_42_4 rfl (fun u730 => by exfalso; omega) (fun u730 => ?_)
              refine w_aload_n gz_42_7 rfl ?_
              refine w_iload_n gz_42_8 rfl ?_
              refine w_bipush gz_42_9 (by decide) ?_
              refine w_aload_n gz_42_11 rfl ?_
              refine v_getI (j := 7) gz_42_12 rfl is_82 rd_5 rfl (fun v731 ev731 pv731 qv731 => ?_)
              refine w_imul gz_42_15 ⟨by omega, by omega⟩ ?_
              refine w_iadd gz_42_16 ⟨by omega, by omega⟩ ?_
              refine v_putI (j := 9) gz_42_17 rfl is_82 rd_5 rfl (by omega) (by omega) rfl (fun h732 fh732 => ?_)
              have gh732 : my_fr [(4, 4), (4, 5), (4, 6), (4, 7), (4, 8), (4, 9), (5, 5), (5, 6), (5, 7), (5, 8), (5, 9), (32, -1), (33, -1), (34, -1), (35, -1), (36, -1), (37, -1), (38, -1), (39, -1)] h h732 := my_fr.up my_fr.rf is_82 fh732 rfl
              have Ln_h732 : Ln h732 := Ln_ag (my_ag.up fh732 is_82 rfl) n_Ln
              have Sp_h732 : Sp h732 wv := Sp_ag (my_ag.up fh732 is_82 rfl) hwv n_Ln n_Sp
              have Al_h732 : Al h732 := Al_ag (my_ag.up fh732 is_82 rfl) n_Al
              have Cu_h732 : Cu h732 := Cu_ag (my_ag.up fh732 is_82 rfl) n_Cu
              have Lo_h732 : Lo h h732 := Lo_ag (my_ag.up fh732 is_82 rfl) n_Ln (Lo_rf)
              refine w_vret gz_42_20 gm_42 ?_
              show wp l rho (d + 7) 49 86 [(2, 82), (0, 0), (0, 1), (0, 1), (0, 0), (0, 1)] [] h732 Q
              have psR : h732 82 7 = h 82 7 := ((my_up_fld fh732 (by decide)).trans (rfl : h 82 7 = h 82 7))
              have npsR : cs h732 = cs h := cs_eq (fun j => my_fr.at gh732 is_92 rfl) (my_fr.at gh732 is_82 rfl)
              have c733 := (my_up_self fh732)
              exact w_vret gz_49_86 gm_49 (k0 h732 (gh732) (by omega) (by omega) (by first | exact Lo_h732 | exact ⟨st.1, st.2.1, st.2.2.2.2⟩ | exact Or.inl ⟨by omega, zF, st.2.2.1, st.2.2.2.1⟩ | exact Or.inr (Or.inr (Or.inl ⟨by omega, by omega, zC, st.2.2.1, st.2.2.2.1⟩)) | exact Or.inr (Or.inr (Or.inr (Or.inl ⟨by omega, by omega, zW, st.2.2.2.1⟩))) | exact Or.inr (Or.inr (Or.inr (Or.inr (Or.inl ⟨by omega, by omega, zJ, fun _ => st.2.2.1, st.2.2.2.1⟩)))) | exact Or.inr (Or.inr (Or.inr (Or.inr (Or.inr (Or.inl ⟨by omega, by omega, zS, st.2.2.1, st.2.2.2.1⟩))))) | exact ⟨_, _, _, Or.inl ⟨by omega, zF, rfl, rfl⟩⟩ | exact ⟨_, _, _, Or.inr (Or.inr (Or.inl ⟨by omega, by omega, zC, rfl, rfl⟩))⟩ | exact ⟨_, _, _, Or.inr (Or.inr (Or.inr (Or.inl ⟨by omega, by omega, zW, rfl⟩)))⟩ | exact ⟨_, _, _, Or.inr (Or.inr (Or.inr (Or.inr (Or.inl ⟨by omega, by omega, zJ, fun q => absurd q (by omega), rfl⟩))))⟩ | exact ⟨_, _, _, Or.inr (Or.inr (Or.inr (Or.inr (Or.inr (Or.inl ⟨by omega, by omega, zS, rfl, rfl⟩)))))⟩ | exact ⟨0, 0, 0, Or.inr (Or.inl ⟨by omega, by omega, by omega⟩)⟩ | exact ⟨0, 0, 0, Or.inr (Or.inr (Or.inr (Or.inr (Or.inr (Or.inr ⟨by omega, by omega, by omega, by omega, by omega, by omega⟩)))))⟩ | (exfalso; omega) | omega) (by first | exact Lo_h732 | exact ⟨st.1, st.2.1, st.2.2.2.2⟩ | exact Or.inl ⟨by omega, zF, st.2.2.1, st.2.2.2.1⟩ | exact Or.inr (Or.inr (Or.inl ⟨by omega, by omega, zC, st.2.2.1, st.2.2.2.1⟩)) | exact Or.inr (Or.inr (Or.inr (Or.inl ⟨by omega, by omega, zW, st.2.2.2.1⟩))) | exact Or.inr (Or.inr (Or.inr (Or.inr (Or.inl ⟨by omega, by omega, zJ, fun _ => st.2.2.1, st.2.2.2.1⟩)))) | exact Or.inr (Or.inr (Or.inr (Or.inr (Or.inr (Or.inl ⟨by omega, by omega, zS, st.2.2.1, st.2.2.2.1⟩))))) | exact ⟨_, _, _, Or.inl ⟨by omega, zF, rfl, rfl⟩⟩ | exact ⟨_, _, _, Or.inr (Or.inr (Or.inl ⟨by omega, by omega, zC, rfl, rfl⟩))⟩ | exact ⟨_, _, _, Or.inr (Or.inr (Or.inr (Or.inl ⟨by omega, by omega, zW, rfl⟩)))⟩ | exact ⟨_, _, _, Or.inr (Or.inr (Or.inr (Or.inr (Or.inl ⟨by omega, by omega, zJ, fun q => absurd q (by omega), rfl⟩))))⟩ | exact ⟨_, _, _, Or.inr (Or.inr (Or.inr (Or.inr (Or.inr (Or.inl ⟨by omega, by omega, zS, rfl, rfl⟩)))))⟩ | exact ⟨0, 0, 0, Or.inr (Or.inl ⟨by omega, by omega, by omega⟩)⟩ | exact ⟨0, 0, 0, Or.inr (Or.inr (Or.inr (Or.inr (Or.inr (Or.inr ⟨by omega, by omega, by omega, by omega, by omega, by omega⟩)))))⟩ | (exfalso; omega) | omega) Ln_h732 Sp_h732 Al_h732 Cu_h732)
        ·
          show wp l rho (d + 7) 49 27 [(2, 82), (0, 0), (0, 1), (0, 1), (9, 0), (9, 0)] [(0, 1)] h Q
          rw [show wc ((7 : Nat) : Int) = 527412 from by decide] at xp636
          refine w_istore (ls' := [(2, 82), (0, 0), (0, 1), (0, 1), (0, 1), (9, 0)]) gz_49_27 gm_49 rfl rfl rfl ?_
          refine w_aload_n gz_49_29 rfl ?_
          refine w_ldcS gz_49_30 (by decide) ?_
          refine w_inv (k := 1) (as := [(3, ((8 : Nat) : Int))]) (r := []) (x := 82) (ls0 := [(2, 82), (3, ((8 : Nat) : Int)), (9, 0)]) gz_49_32 gm_41 rfl is_82 rd_5 rfl rfl rfl rfl rfl (c_Reader_isWord9_f0 (d := (d + 2)) (x1 := ((8 : Nat) : Int)) (by decide) (cf.trans (by omega)) n_Cu (fun w734 xp735 => ?_) (fun w736 w737 xp738 => ?_))
          ·
            show wp l rho (d + 7) 49 35 [(2, 82), (0, 0), (0, 1), (0, 1), (0, 1), (9, 0)] [(0, 0)] h Q
            rw [show wc ((8 : Nat) : Int) = 26801 from by decide] at xp735
            refine w_istore (ls' := [(2, 82), (0, 0), (0, 1), (0, 1), (0, 1), (0, 0)]) gz_49_35 gm_49 rfl rfl rfl ?_
            refine w_iload_n gz_49_37 rfl ?_
            refine w_ifne (t := 65) gz_49_38 rfl (fun u739 => by exfalso; omega) (fun u739 => ?_)
            refine w_iload_n gz_49_41 rfl ?_
            refine w_ifne (t := 65) gz_49_42 rfl (fun u740 => ?_) (fun u740 => by exfalso; omega)
            refine w_iload_n gz_49_65 rfl ?_
            refine w_ifne (t := 87) gz_49_66 rfl (fun u741 => by exfalso; omega) (fun u741 => ?_)
            refine w_aload_n gz_49_69 rfl ?_
            refine v_getR (j := 2) gz_49_70 rfl is_82 rd_5 rfl (fun v742 ev742 tv742 => ?_)
            have sE73 : v742 = h 82 2 := by first | assumption | omega
            refine v_getI (j := 9) gz_49_73 rfl tv742 rd_4 rfl (fun v743 ev743 pv743 qv743 => ?_)
            have c76 : v743 = h (h 82 2) 9 := by rw [← sE73]; omega
            refine w_bipush gz_49_76 (by decide) ?_
            refine w_iclt (t := 87) gz_49_78 rfl (fun u744 => ?_) (fun u744 => ?_)
            ·
              have St5_ht745 : St5 h := ⟨by subst_vars; omega, by subst_vars; omega⟩
              refine w_aload_n gz_49_87 rfl ?_
              refine w_inv (k := 2) (as := []) (r := []) (x := 82) (ls0 := [(2, 82), (9, 0), (9, 0)]) gz_49_88 gm_37 rfl is_82 rd_5 rfl rfl rfl rfl rfl (c_Reader_nextToken9_f0 (d := (d + 5))  (cf.trans (by omega)) n_Al (fun h746 frh746 w747 w748 w749 xp750 xp751 Al_h746t752 Cu_h746t753 => ?_))
              have gh746 : my_fr [(4, 4), (4, 5), (4, 6), (4, 7), (4, 8), (4, 9), (5, 5), (5, 6), (5, 7), (5, 8), (5, 9), (32, -1), (33, -1), (34, -1), (35, -1), (36, -1), (37, -1), (38, -1), (39, -1)] h h746 := my_fr.tr my_fr.rf (frh746.mo rfl)
              have Ln_h746 : Ln h746 := Ln_ag (my_ag.fr frh746 rfl) n_Ln
              have Sp_h746 : Sp h746 wv := Sp_ag (my_ag.fr frh746 rfl) hwv n_Ln n_Sp
              have Lo_h746 : Lo h h746 := Lo_ag (my_ag.fr frh746 rfl) n_Ln (Lo_rf)
              have St5_h746 : St5 h746 := St5_ag (my_ag.fr frh746 rfl) n_Ln St5_ht745
              show wp l rho (d + 7) 49 91 [(2, 82), (0, 0), (0, 1), (0, 1), (0, 1), (0, 0)] [] h746 Q
              have xc754 := xp750 n_Cu
              have ck755 := Cu_s Cu_h746t753
              rw [show cs h746 = cs h from cs_eq (fun j => my_fr.at gh746 is_92 rfl) (my_fr.at gh746 is_82 rfl)] at ck755
              rw [show h746 82 7 = (sN (cs h) (h 82 7)) from xc754] at ck755
              refine w_iload_n gz_49_91 rfl ?_
              refine w_ifeq (t := 102) gz_49_92 rfl (fun u756 => ?_) (fun u756 => by exfalso; omega)
              refine w_iload_n gz_49_102 rfl ?_
              refine w_ifeq (t := 113) gz_49_103 rfl (fun u757 => by exfalso; omega) (fun u757 => ?_)
              refine w_aload_n gz_49_106 rfl ?_
              refine w_inv (k := 3) (as := []) (r := []) (x := 82) (ls0 := [(2, 82), (9, 0), (9, 0), (9, 0)]) gz_49_107 gm_52 rfl is_82 rd_5 rfl rfl rfl rfl rfl (c_Reader_readCut9_f0 (d := (d + 1))  (wv := wv) (((my_fr.at frh746 is_82 rfl).trans cf).trans (by omega)) (by first | assumption | omega) (by first | assumption | omega) Ln_h746 Sp_h746 St5_h746 Al_h746t752 Cu_h746t753 (fun h758 frh758 w759 w760 xp761 Ln_h758t762 Sp_h758t763 Al_h758t764 Cu_h758t765 => ?_) (fun h766 frh766 w767 xp768 xp769 Ln_h766t770 Sp_h766t771 Al_h766t772 Cu_h766t773 => ?_))
              ·
                have gh758 : my_fr [(4, 4), (4, 5), (4, 6), (4, 7), (4, 8), (4, 9), (5, 5), (5, 6), (5, 7), (5, 8), (5, 9), (32, -1), (33, -1), (34, -1), (35, -1), (36, -1), (37, -1), (38, -1), (39, -1)] h h758 := my_fr.tr gh746 (frh758.mo rfl)
                have Lo_h758 : Lo h h758 := Lo_ag (my_ag.fr frh758 rfl) Ln_h746 Lo_h746
                show wp l rho (d + 7) 49 110 [(2, 82), (0, 0), (0, 1), (0, 1), (0, 1), (0, 0)] [] h758 Q
                have tE774 : cs h746 = cs h := cs_eq (fun j => my_fr.at gh746 is_92 rfl) (my_fr.at gh746 is_82 rfl)
                rw [tE774] at xp761
                have ps775 : h746 82 7 = (sN (cs h) (h 82 7)) := xc754
                rw [ps775] at xp761
                have q2 : h746 82 2 = h 82 2 := my_fr.at frh746 is_82 rfl
                have q11 : h746 (h 82 2) 1 = h (h 82 2) 1 := my_fr.at frh746 n_Ln.2.2.2.1 rfl
                have q13 : h746 (h 82 2) 3 = h (h 82 2) 3 := my_fr.at frh746 n_Ln.2.2.2.1 rfl
                have q14 : h746 (h 82 2) 4 = h (h 82 2) 4 := my_fr.at frh746 n_Ln.2.2.2.1 rfl
                have q19 : h746 (h 82 2) 9 = h (h 82 2) 9 := my_fr.at frh746 n_Ln.2.2.2.1 rfl
                have qc : h746 2 = h 2 := funext (fun j => my_fr.at frh746 is_2 rfl)
                have zC := xp761
                simp only [q2, q11, q13, q14, q19, qc] at zC
                refine w_goto (t := 140) gz_49_110 rfl ?_
                have psR : h758 82 7 = h758 82 7 := (rfl : h758 82 7 = h758 82 7)
                have npsR : cs h758 = cs h := cs_eq (fun j => my_fr.at gh758 is_92 rfl) (my_fr.at gh758 is_82 rfl)
                have c776 := (rfl : h758 82 9 = h758 82 9)
                exact w_vret gz_49_140 gm_49 (k0 h758 (gh758) (by omega) (by omega) (by first | exact Lo_h758 | exact ⟨st.1, st.2.1, st.2.2.2.2⟩ | exact Or.inl ⟨by omega, zF, st.2.2.1, st.2.2.2.1⟩ | exact Or.inr (Or.inr (Or.inl ⟨by omega, by omega, zC, st.2.2.1, st.2.2.2.1⟩)) | exact Or.inr (Or.inr (Or.inr (Or.inl ⟨by omega, by omega, zW, st.2.2.2.1⟩))) | exact Or.inr (Or.inr (Or.inr (Or.inr (Or.inl ⟨by omega, by omega, zJ, fun _ => st.2.2.1, st.2.2.2.1⟩)))) | exact Or.inr (Or.inr (Or.inr (Or.inr (Or.inr (Or.inl ⟨by omega, by omega, zS, st.2.2.1, st.2.2.2.1⟩))))) | exact ⟨_, _, _, Or.inl ⟨by omega, zF, rfl, rfl⟩⟩ | exact ⟨_, _, _, Or.inr (Or.inr (Or.inl ⟨by omega, by omega, zC, rfl, rfl⟩))⟩ | exact ⟨_, _, _, Or.inr (Or.inr (Or.inr (Or.inl ⟨by omega, by omega, zW, rfl⟩)))⟩ | exact ⟨_, _, _, Or.inr (Or.inr (Or.inr (Or.inr (Or.inl ⟨by omega, by omega, zJ, fun q => absurd q (by omega), rfl⟩))))⟩ | exact ⟨_, _, _, Or.inr (Or.inr (Or.inr (Or.inr (Or.inr (Or.inl ⟨by omega, by omega, zS, rfl, rfl⟩)))))⟩ | exact ⟨0, 0, 0, Or.inr (Or.inl ⟨by omega, by omega, by omega⟩)⟩ | exact ⟨0, 0, 0, Or.inr (Or.inr (Or.inr (Or.inr (Or.inr (Or.inr ⟨by omega, by omega, by omega, by omega, by omega, by omega⟩)))))⟩ | (exfalso; omega) | omega) (by first | exact Lo_h758 | exact ⟨st.1, st.2.1, st.2.2.2.2⟩ | exact Or.inl ⟨by omega, zF, st.2.2.1, st.2.2.2.1⟩ | exact Or.inr (Or.inr (Or.inl ⟨by omega, by omega, zC, st.2.2.1, st.2.2.2.1⟩)) | exact Or.inr (Or.inr (Or.inr (Or.inl ⟨by omega, by omega, zW, st.2.2.2.1⟩))) | exact Or.inr (Or.inr (Or.inr (Or.inr (Or.inl ⟨by omega, by omega, zJ, fun _ => st.2.2.1, st.2.2.2.1⟩)))) | exact Or.inr (Or.inr (Or.inr (Or.inr (Or.inr (Or.inl ⟨by omega, by omega, zS, st.2.2.1, st.2.2.2.1⟩))))) | exact ⟨_, _, _, Or.inl ⟨by omega, zF, rfl, rfl⟩⟩ | exact ⟨_, _, _, Or.inr (Or.inr (Or.inl ⟨by omega, by omega, zC, rfl, rfl⟩))⟩ | exact ⟨_, _, _, Or.inr (Or.inr (Or.inr (Or.inl ⟨by omega, by omega, zW, rfl⟩)))⟩ | exact ⟨_, _, _, Or.inr (Or.inr (Or.inr (Or.inr (Or.inl ⟨by omega, by omega, zJ, fun q => absurd q (by omega), rfl⟩))))⟩ | exact ⟨_, _, _, Or.inr (Or.inr (Or.inr (Or.inr (Or.inr (Or.inl ⟨by omega, by omega, zS, rfl, rfl⟩)))))⟩ | exact ⟨0, 0, 0, Or.inr (Or.inl ⟨by omega, by omega, by omega⟩)⟩ | exact ⟨0, 0, 0, Or.inr (Or.inr (Or.inr (Or.inr (Or.inr (Or.inr ⟨by omega, by omega, by omega, by omega, by omega, by omega⟩)))))⟩ | (exfalso; omega) | omega) Ln_h758t762 Sp_h758t763 Al_h758t764 Cu_h758t765)
              ·
                have gh766 : my_fr [(4, 4), (4, 5), (4, 6), (4, 7), (4, 8), (4, 9), (5, 5), (5, 6), (5, 7), (5, 8), (5, 9), (32, -1), (33, -1), (34, -1), (35, -1), (36, -1), (37, -1), (38, -1), (39, -1)] h h766 := my_fr.tr gh746 (frh766.mo rfl)
                have Lo_h766 : Lo h h766 := Lo_ag (my_ag.fr frh766 rfl) Ln_h746 Lo_h746
                show wp l rho (d + 7) 49 110 [(2, 82), (0, 0), (0, 1), (0, 1), (0, 1), (0, 0)] [] h766 Q
                have tE777 : cs h746 = cs h := cs_eq (fun j => my_fr.at gh746 is_92 rfl) (my_fr.at gh746 is_82 rfl)
                rw [tE777] at xp768
                have ps778 : h746 82 7 = (sN (cs h) (h 82 7)) := xc754
                rw [ps778] at xp768
                have q2 : h746 82 2 = h 82 2 := my_fr.at frh746 is_82 rfl
                have q11 : h746 (h 82 2) 1 = h (h 82 2) 1 := my_fr.at frh746 n_Ln.2.2.2.1 rfl
                have q13 : h746 (h 82 2) 3 = h (h 82 2) 3 := my_fr.at frh746 n_Ln.2.2.2.1 rfl
                have q14 : h746 (h 82 2) 4 = h (h 82 2) 4 := my_fr.at frh746 n_Ln.2.2.2.1 rfl
                have q19 : h746 (h 82 2) 9 = h (h 82 2) 9 := my_fr.at frh746 n_Ln.2.2.2.1 rfl
                have qc : h746 2 = h 2 := funext (fun j => my_fr.at frh746 is_2 rfl)
                have zC := xp768
                simp only [q2, q11, q13, q14, q19, qc] at zC
                have st := xp769
                unfold Std at st
                simp only [q2, q11, q13, q14, q19, qc] at st
                refine w_goto (t := 140) gz_49_110 rfl ?_
                have psR : h766 82 7 = h766 82 7 := (rfl : h766 82 7 = h766 82 7)
                have npsR : cs h766 = cs h := cs_eq (fun j => my_fr.at gh766 is_92 rfl) (my_fr.at gh766 is_82 rfl)
                have c779 := w767
                exact w_vret gz_49_140 gm_49 (k1 h766 (gh766) (by omega) (by first | exact Lo_h766 | exact ⟨st.1, st.2.1, st.2.2.2.2⟩ | exact Or.inl ⟨by omega, zF, st.2.2.1, st.2.2.2.1⟩ | exact Or.inr (Or.inr (Or.inl ⟨by omega, by omega, zC, st.2.2.1, st.2.2.2.1⟩)) | exact Or.inr (Or.inr (Or.inr (Or.inl ⟨by omega, by omega, zW, st.2.2.2.1⟩))) | exact Or.inr (Or.inr (Or.inr (Or.inr (Or.inl ⟨by omega, by omega, zJ, fun _ => st.2.2.1, st.2.2.2.1⟩)))) | exact Or.inr (Or.inr (Or.inr (Or.inr (Or.inr (Or.inl ⟨by omega, by omega, zS, st.2.2.1, st.2.2.2.1⟩))))) | exact ⟨_, _, _, Or.inl ⟨by omega, zF, rfl, rfl⟩⟩ | exact ⟨_, _, _, Or.inr (Or.inr (Or.inl ⟨by omega, by omega, zC, rfl, rfl⟩))⟩ | exact ⟨_, _, _, Or.inr (Or.inr (Or.inr (Or.inl ⟨by omega, by omega, zW, rfl⟩)))⟩ | exact ⟨_, _, _, Or.inr (Or.inr (Or.inr (Or.inr (Or.inl ⟨by omega, by omega, zJ, fun q => absurd q (by omega), rfl⟩))))⟩ | exact ⟨_, _, _, Or.inr (Or.inr (Or.inr (Or.inr (Or.inr (Or.inl ⟨by omega, by omega, zS, rfl, rfl⟩)))))⟩ | exact ⟨0, 0, 0, Or.inr (Or.inl ⟨by omega, by omega, by omega⟩)⟩ | exact ⟨0, 0, 0, Or.inr (Or.inr (Or.inr (Or.inr (Or.inr (Or.inr ⟨by omega, by omega, by omega, by omega, by omega, by omega⟩)))))⟩ | (exfalso; omega) | omega) (by first | exact Lo_h766 | exact ⟨st.1, st.2.1, st.2.2.2.2⟩ | exact Or.inl ⟨by omega, zF, st.2.2.1, st.2.2.2.1⟩ | exact Or.inr (Or.inr (Or.inl ⟨by omega, by omega, zC, st.2.2.1, st.2.2.2.1⟩)) | exact Or.inr (Or.inr (Or.inr (Or.inl ⟨by omega, by omega, zW, st.2.2.2.1⟩))) | exact Or.inr (Or.inr (Or.inr (Or.inr (Or.inl ⟨by omega, by omega, zJ, fun _ => st.2.2.1, st.2.2.2.1⟩)))) | exact Or.inr (Or.inr (Or.inr (Or.inr (Or.inr (Or.inl ⟨by omega, by omega, zS, st.2.2.1, st.2.2.2.1⟩))))) | exact ⟨_, _, _, Or.inl ⟨by omega, zF, rfl, rfl⟩⟩ | exact ⟨_, _, _, Or.inr (Or.inr (Or.inl ⟨by omega, by omega, zC, rfl, rfl⟩))⟩ | exact ⟨_, _, _, Or.inr (Or.inr (Or.inr (Or.inl ⟨by omega, by omega, zW, rfl⟩)))⟩ | exact ⟨_, _, _, Or.inr (Or.inr (Or.inr (Or.inr (Or.inl ⟨by omega, by omega, zJ, fun q => absurd q (by omega), rfl⟩))))⟩ | exact ⟨_, _, _, Or.inr (Or.inr (Or.inr (Or.inr (Or.inr (Or.inl ⟨by omega, by omega, zS, rfl, rfl⟩)))))⟩ | exact ⟨0, 0, 0, Or.inr (Or.inl ⟨by omega, by omega, by omega⟩)⟩ | exact ⟨0, 0, 0, Or.inr (Or.inr (Or.inr (Or.inr (Or.inr (Or.inr ⟨by omega, by omega, by omega, by omega, by omega, by omega⟩)))))⟩ | (exfalso; omega) | omega) (by first | exact Lo_h766 | exact ⟨st.1, st.2.1, st.2.2.2.2⟩ | exact Or.inl ⟨by omega, zF, st.2.2.1, st.2.2.2.1⟩ | exact Or.inr (Or.inr (Or.inl ⟨by omega, by omega, zC, st.2.2.1, st.2.2.2.1⟩)) | exact Or.inr (Or.inr (Or.inr (Or.inl ⟨by omega, by omega, zW, st.2.2.2.1⟩))) | exact Or.inr (Or.inr (Or.inr (Or.inr (Or.inl ⟨by omega, by omega, zJ, fun _ => st.2.2.1, st.2.2.2.1⟩)))) | exact Or.inr (Or.inr (Or.inr (Or.inr (Or.inr (Or.inl ⟨by omega, by omega, zS, st.2.2.1, st.2.2.2.1⟩))))) | exact ⟨_, _, _, Or.inl ⟨by omega, zF, rfl, rfl⟩⟩ | exact ⟨_, _, _, Or.inr (Or.inr (Or.inl ⟨by omega, by omega, zC, rfl, rfl⟩))⟩ | exact ⟨_, _, _, Or.inr (Or.inr (Or.inr (Or.inl ⟨by omega, by omega, zW, rfl⟩)))⟩ | exact ⟨_, _, _, Or.inr (Or.inr (Or.inr (Or.inr (Or.inl ⟨by omega, by omega, zJ, fun q => absurd q (by omega), rfl⟩))))⟩ | exact ⟨_, _, _, Or.inr (Or.inr (Or.inr (Or.inr (Or.inr (Or.inl ⟨by omega, by omega, zS, rfl, rfl⟩)))))⟩ | exact ⟨0, 0, 0, Or.inr (Or.inl ⟨by omega, by omega, by omega⟩)⟩ | exact ⟨0, 0, 0, Or.inr (Or.inr (Or.inr (Or.inr (Or.inr (Or.inr ⟨by omega, by omega, by omega, by omega, by omega, by omega⟩)))))⟩ | (exfalso; omega) | omega) Ln_h766t770 Sp_h766t771 Al_h766t772 Cu_h766t773)
            ·
              refine w_aload_n gz_49_81 rfl ?_
              refine w_iconst gz_49_82 (by decide) ?_
              refine w_inv (k := 0) (as := [(0, 5)]) (r := []) (x := 82) (ls0 := [(2, 82), (0, 5)]) gz_49_83 gm_42 rfl is_82 rd_5 rfl rfl rfl rfl rfl ?_
              refine w_aload_n gz_42_0 rfl ?_
              refine v_getI (j := 9) gz_42_1 rfl is_82 rd_5 rfl (fun v780 ev780 pv780 qv780 => ?_)
              have zv780 := ev780.trans cf
              refine w_ifne (t := 20) gz_42_4 rfl (fun u781 => by exfalso; omega) (fun u781 => ?_)
              refine w_aload_n gz_42_7 rfl ?_
              refine w_iload_n gz_42_8 rfl ?_
              refine w_bipush gz_42_9 (by decide) ?_
              refine w_aload_n gz_42_11 rfl ?_
              refine v_getI (j := 7) gz_42_12 rfl is_82 rd_5 rfl (fun v782 ev782 pv782 qv782 => ?_)
              refine w_imul gz_42_15 ⟨by omega, by omega⟩ ?_
              refine w_iadd gz_42_16 ⟨by omega, by omega⟩ ?_
              refine v_putI (j := 9) gz_42_17 rfl is_82 rd_5 rfl (by omega) (by omega) rfl (fun h783 fh783 => ?_)
              have gh783 : my_fr [(4, 4), (4, 5), (4, 6), (4, 7), (4, 8), (4, 9), (5, 5), (5, 6), (5, 7), (5, 8), (5, 9), (32, -1), (33, -1), (34, -1), (35, -1), (36, -1), (37, -1), (38, -1), (39, -1)] h h783 := my_fr.up my_fr.rf is_82 fh783 rfl
              have Ln_h783 : Ln h783 := Ln_ag (my_ag.up fh783 is_82 rfl) n_Ln
              have Sp_h783 : Sp h783 wv := Sp_ag (my_ag.up fh783 is_82 rfl) hwv n_Ln n_Sp
              have Al_h783 : Al h783 := Al_ag (my_ag.up fh783 is_82 rfl) n_Al
              have Cu_h783 : Cu h783 := Cu_ag (my_ag.up fh783 is_82 rfl) n_Cu
              have Lo_h783 : Lo h h783 := Lo_ag (my_ag.up fh783 is_82 rfl) n_Ln (Lo_rf)
              refine w_vret gz_42_20 gm_42 ?_
              show wp l rho (d + 7) 49 86 [(2, 82), (0, 0), (0, 1), (0, 1), (0, 1), (0, 0)] [] h783 Q
              have psR : h783 82 7 = h 82 7 := ((my_up_fld fh783 (by decide)).trans (rfl : h 82 7 = h 82 7))
              have npsR : cs h783 = cs h := cs_eq (fun j => my_fr.at gh783 is_92 rfl) (my_fr.at gh783 is_82 rfl)
              have c784 := (my_up_self fh783)
              exact w_vret gz_49_86 gm_49 (k0 h783 (gh783) (by omega) (by omega) (by first | exact Lo_h783 | exact ⟨st.1, st.2.1, st.2.2.2.2⟩ | exact Or.inl ⟨by omega, zF, st.2.2.1, st.2.2.2.1⟩ | exact Or.inr (Or.inr (Or.inl ⟨by omega, by omega, zC, st.2.2.1, st.2.2.2.1⟩)) | exact Or.inr (Or.inr (Or.inr (Or.inl ⟨by omega, by omega, zW, st.2.2.2.1⟩))) | exact Or.inr (Or.inr (Or.inr (Or.inr (Or.inl ⟨by omega, by omega, zJ, fun _ => st.2.2.1, st.2.2.2.1⟩)))) | exact Or.inr (Or.inr (Or.inr (Or.inr (Or.inr (Or.inl ⟨by omega, by omega, zS, st.2.2.1, st.2.2.2.1⟩))))) | exact ⟨_, _, _, Or.inl ⟨by omega, zF, rfl, rfl⟩⟩ | exact ⟨_, _, _, Or.inr (Or.inr (Or.inl ⟨by omega, by omega, zC, rfl, rfl⟩))⟩ | exact ⟨_, _, _, Or.inr (Or.inr (Or.inr (Or.inl ⟨by omega, by omega, zW, rfl⟩)))⟩ | exact ⟨_, _, _, Or.inr (Or.inr (Or.inr (Or.inr (Or.inl ⟨by omega, by omega, zJ, fun q => absurd q (by omega), rfl⟩))))⟩ | exact ⟨_, _, _, Or.inr (Or.inr (Or.inr (Or.inr (Or.inr (Or.inl ⟨by omega, by omega, zS, rfl, rfl⟩)))))⟩ | exact ⟨0, 0, 0, Or.inr (Or.inl ⟨by omega, by omega, by omega⟩)⟩ | exact ⟨0, 0, 0, Or.inr (Or.inr (Or.inr (Or.inr (Or.inr (Or.inr ⟨by omega, by omega, by omega, by omega, by omega, by omega⟩)))))⟩ | (exfalso; omega) | omega) (by first | exact Lo_h783 | exact ⟨st.1, st.2.1, st.2.2.2.2⟩ | exact Or.inl ⟨by omega, zF, st.2.2.1, st.2.2.2.1⟩ | exact Or.inr (Or.inr (Or.inl ⟨by omega, by omega, zC, st.2.2.1, st.2.2.2.1⟩)) | exact Or.inr (Or.inr (Or.inr (Or.inl ⟨by omega, by omega, zW, st.2.2.2.1⟩))) | exact Or.inr (Or.inr (Or.inr (Or.inr (Or.inl ⟨by omega, by omega, zJ, fun _ => st.2.2.1, st.2.2.2.1⟩)))) | exact Or.inr (Or.inr (Or.inr (Or.inr (Or.inr (Or.inl ⟨by omega, by omega, zS, st.2.2.1, st.2.2.2.1⟩))))) | exact ⟨_, _, _, Or.inl ⟨by omega, zF, rfl, rfl⟩⟩ | exact ⟨_, _, _, Or.inr (Or.inr (Or.inl ⟨by omega, by omega, zC, rfl, rfl⟩))⟩ | exact ⟨_, _, _, Or.inr (Or.inr (Or.inr (Or.inl ⟨by omega, by omega, zW, rfl⟩)))⟩ | exact ⟨_, _, _, Or.inr (Or.inr (Or.inr (Or.inr (Or.inl ⟨by omega, by omega, zJ, fun q => absurd q (by omega), rfl⟩))))⟩ | exact ⟨_, _, _, Or.inr (Or.inr (Or.inr (Or.inr (Or.inr (Or.inl ⟨by omega, by omega, zS, rfl, rfl⟩)))))⟩ | exact ⟨0, 0, 0, Or.inr (Or.inl ⟨by omega, by omega, by omega⟩)⟩ | exact ⟨0, 0, 0, Or.inr (Or.inr (Or.inr (Or.inr (Or.inr (Or.inr ⟨by omega, by omega, by omega, by omega, by omega, by omega⟩)))))⟩ | (exfalso; omega) | omega) Ln_h783 Sp_h783 Al_h783 Cu_h783)
          ·
            show wp l rho (d + 7) 49 35 [(2, 82), (0, 0), (0, 1), (0, 1), (0, 1), (9, 0)] [(0, 1)] h Q
            rw [show wc ((8 : Nat) : Int) = 26801 from by decide] at xp738
            refine w_istore (ls' := [(2, 82), (0, 0), (0, 1), (0, 1), (0, 1), (0, 1)]) gz_49_35 gm_49 rfl rfl rfl ?_
            refine w_iload_n gz_49_37 rfl ?_
            refine w_ifne (t := 65) gz_49_38 rfl (fun u785 => by exfalso; omega) (fun u785 => ?_)
            refine w_iload_n gz_49_41 rfl ?_
            refine w_ifne (t := 65) gz_49_42 rfl (fun u786 => ?_) (fun u786 => by exfalso; omega)
            refine w_iload_n gz_49_65 rfl ?_
            refine w_ifne (t := 87) gz_49_66 rfl (fun u787 => by exfalso; omega) (fun u787 => ?_)
            refine w_aload_n gz_49_69 rfl ?_
            refine v_getR (j := 2) gz_49_70 rfl is_82 rd_5 rfl (fun v788 ev788 tv788 => ?_)
            have sE73 : v788 = h 82 2 := by first | assumption | omega
            refine v_getI (j := 9) gz_49_73 rfl tv788 rd_4 rfl (fun v789 ev789 pv789 qv789 => ?_)
            have c76 : v789 = h (h 82 2) 9 := by rw [← sE73]; omega
            refine w_bipush gz_49_76 (by decide) ?_
            refine w_iclt (t := 87) gz_49_78 rfl (fun u790 => ?_) (fun u790 => ?_)
            ·
              have St5_ht791 : St5 h := ⟨by subst_vars; omega, by subst_vars; omega⟩
              refine w_aload_n gz_49_87 rfl ?_
              refine w_inv (k := 2) (as := []) (r := []) (x := 82) (ls0 := [(2, 82), (9, 0), (9, 0)]) gz_49_88 gm_37 rfl is_82 rd_5 rfl rfl rfl rfl rfl (c_Reader_nextToken9_f0 (d := (d + 5))  (cf.trans (by omega)) n_Al (fun h792 frh792 w793 w794 w795 xp796 xp797 Al_h792t798 Cu_h792t799 => ?_))
              have gh792 : my_fr [(4, 4), (4, 5), (4, 6), (4, 7), (4, 8), (4, 9), (5, 5), (5, 6), (5, 7), (5, 8), (5, 9), (32, -1), (33, -1), (34, -1), (35, -1), (36, -1), (37, -1), (38, -1), (39, -1)] h h792 := my_fr.tr my_fr.rf (frh792.mo rfl)
              have Ln_h792 : Ln h792 := Ln_ag (my_ag.fr frh792 rfl) n_Ln
              have Sp_h792 : Sp h792 wv := Sp_ag (my_ag.fr frh792 rfl) hwv n_Ln n_Sp
              have Lo_h792 : Lo h h792 := Lo_ag (my_ag.fr frh792 rfl) n_Ln (Lo_rf)
              have St5_h792 : St5 h792 := St5_ag (my_ag.fr frh792 rfl) n_Ln St5_ht791
              show wp l rho (d + 7) 49 91 [(2, 82), (0, 0), (0, 1), (0, 1), (0, 1), (0, 1)] [] h792 Q
              have xc800 := xp796 n_Cu
              have ck801 := Cu_s Cu_h792t799
              rw [show cs h792 = cs h from cs_eq (fun j => my_fr.at gh792 is_92 rfl) (my_fr.at gh792 is_82 rfl)] at ck801
              rw [show h792 82 7 = (sN (cs h) (h 82 7)) from xc800] at ck801
              refine w_iload_n gz_49_91 rfl ?_
              refine w_ifeq (t := 102) gz_49_92 rfl (fun u802 => ?_) (fun u802 => by exfalso; omega)
              refine w_iload_n gz_49_102 rfl ?_
              refine w_ifeq (t := 113) gz_49_103 rfl (fun u803 => by exfalso; omega) (fun u803 => ?_)
              refine w_aload_n gz_49_106 rfl ?_
              refine w_inv (k := 3) (as := []) (r := []) (x := 82) (ls0 := [(2, 82), (9, 0), (9, 0), (9, 0)]) gz_49_107 gm_52 rfl is_82 rd_5 rfl rfl rfl rfl rfl (c_Reader_readCut9_f0 (d := (d + 1))  (wv := wv) (((my_fr.at frh792 is_82 rfl).trans cf).trans (by omega)) (by first | assumption | omega) (by first | assumption | omega) Ln_h792 Sp_h792 St5_h792 Al_h792t798 Cu_h792t799 (fun h804 frh804 w805 w806 xp807 Ln_h804t808 Sp_h804t809 Al_h804t810 Cu_h804t811 => ?_) (fun h812 frh812 w813 xp814 xp815 Ln_h812t816 Sp_h812t817 Al_h812t818 Cu_h812t819 => ?_))
              ·
                have gh804 : my_fr [(4, 4), (4, 5), (4, 6), (4, 7), (4, 8), (4, 9), (5, 5), (5, 6), (5, 7), (5, 8), (5, 9), (32, -1), (33, -1), (34, -1), (35, -1), (36, -1), (37, -1), (38, -1), (39, -1)] h h804 := my_fr.tr gh792 (frh804.mo rfl)
                have Lo_h804 : Lo h h804 := Lo_ag (my_ag.fr frh804 rfl) Ln_h792 Lo_h792
                show wp l rho (d + 7) 49 110 [(2, 82), (0, 0), (0, 1), (0, 1), (0, 1), (0, 1)] [] h804 Q
                have tE820 : cs h792 = cs h := cs_eq (fun j => my_fr.at gh792 is_92 rfl) (my_fr.at gh792 is_82 rfl)
                rw [tE820] at xp807
                have ps821 : h792 82 7 = (sN (cs h) (h 82 7)) := xc800
                rw [ps821] at xp807
                have q2 : h792 82 2 = h 82 2 := my_fr.at frh792 is_82 rfl
                have q11 : h792 (h 82 2) 1 = h (h 82 2) 1 := my_fr.at frh792 n_Ln.2.2.2.1 rfl
                have q13 : h792 (h 82 2) 3 = h (h 82 2) 3 := my_fr.at frh792 n_Ln.2.2.2.1 rfl
                have q14 : h792 (h 82 2) 4 = h (h 82 2) 4 := my_fr.at frh792 n_Ln.2.2.2.1 rfl
                have q19 : h792 (h 82 2) 9 = h (h 82 2) 9 := my_fr.at frh792 n_Ln.2.2.2.1 rfl
                have qc : h792 2 = h 2 := funext (fun j => my_fr.at frh792 is_2 rfl)
                have zC := xp807
                simp only [q2, q11, q13, q14, q19, qc] at zC
                refine w_goto (t := 140) gz_49_110 rfl ?_
                have psR : h804 82 7 = h804 82 7 := (rfl : h804 82 7 = h804 82 7)
                have npsR : cs h804 = cs h := cs_eq (fun j => my_fr.at gh804 is_92 rfl) (my_fr.at gh804 is_82 rfl)
                have c822 := (rfl : h804 82 9 = h804 82 9)
                exact w_vret gz_49_140 gm_49 (k0 h804 (gh804) (by omega) (by omega) (by first | exact Lo_h804 | exact ⟨st.1, st.2.1, st.2.2.2.2⟩ | exact Or.inl ⟨by omega, zF, st.2.2.1, st.2.2.2.1⟩ | exact Or.inr (Or.inr (Or.inl ⟨by omega, by omega, zC, st.2.2.1, st.2.2.2.1⟩)) | exact Or.inr (Or.inr (Or.inr (Or.inl ⟨by omega, by omega, zW, st.2.2.2.1⟩))) | exact Or.inr (Or.inr (Or.inr (Or.inr (Or.inl ⟨by omega, by omega, zJ, fun _ => st.2.2.1, st.2.2.2.1⟩)))) | exact Or.inr (Or.inr (Or.inr (Or.inr (Or.inr (Or.inl ⟨by omega, by omega, zS, st.2.2.1, st.2.2.2.1⟩))))) | exact ⟨_, _, _, Or.inl ⟨by omega, zF, rfl, rfl⟩⟩ | exact ⟨_, _, _, Or.inr (Or.inr (Or.inl ⟨by omega, by omega, zC, rfl, rfl⟩))⟩ | exact ⟨_, _, _, Or.inr (Or.inr (Or.inr (Or.inl ⟨by omega, by omega, zW, rfl⟩)))⟩ | exact ⟨_, _, _, Or.inr (Or.inr (Or.inr (Or.inr (Or.inl ⟨by omega, by omega, zJ, fun q => absurd q (by omega), rfl⟩))))⟩ | exact ⟨_, _, _, Or.inr (Or.inr (Or.inr (Or.inr (Or.inr (Or.inl ⟨by omega, by omega, zS, rfl, rfl⟩)))))⟩ | exact ⟨0, 0, 0, Or.inr (Or.inl ⟨by omega, by omega, by omega⟩)⟩ | exact ⟨0, 0, 0, Or.inr (Or.inr (Or.inr (Or.inr (Or.inr (Or.inr ⟨by omega, by omega, by omega, by omega, by omega, by omega⟩)))))⟩ | (exfalso; omega) | omega) (by first | exact Lo_h804 | exact ⟨st.1, st.2.1, st.2.2.2.2⟩ | exact Or.inl ⟨by omega, zF, st.2.2.1, st.2.2.2.1⟩ | exact Or.inr (Or.inr (Or.inl ⟨by omega, by omega, zC, st.2.2.1, st.2.2.2.1⟩)) | exact Or.inr (Or.inr (Or.inr (Or.inl ⟨by omega, by omega, zW, st.2.2.2.1⟩))) | exact Or.inr (Or.inr (Or.inr (Or.inr (Or.inl ⟨by omega, by omega, zJ, fun _ => st.2.2.1, st.2.2.2.1⟩)))) | exact Or.inr (Or.inr (Or.inr (Or.inr (Or.inr (Or.inl ⟨by omega, by omega, zS, st.2.2.1, st.2.2.2.1⟩))))) | exact ⟨_, _, _, Or.inl ⟨by omega, zF, rfl, rfl⟩⟩ | exact ⟨_, _, _, Or.inr (Or.inr (Or.inl ⟨by omega, by omega, zC, rfl, rfl⟩))⟩ | exact ⟨_, _, _, Or.inr (Or.inr (Or.inr (Or.inl ⟨by omega, by omega, zW, rfl⟩)))⟩ | exact ⟨_, _, _, Or.inr (Or.inr (Or.inr (Or.inr (Or.inl ⟨by omega, by omega, zJ, fun q => absurd q (by omega), rfl⟩))))⟩ | exact ⟨_, _, _, Or.inr (Or.inr (Or.inr (Or.inr (Or.inr (Or.inl ⟨by omega, by omega, zS, rfl, rfl⟩)))))⟩ | exact ⟨0, 0, 0, Or.inr (Or.inl ⟨by omega, by omega, by omega⟩)⟩ | exact ⟨0, 0, 0, Or.inr (Or.inr (Or.inr (Or.inr (Or.inr (Or.inr ⟨by omega, by omega, by omega, by omega, by omega, by omega⟩)))))⟩ | (exfalso; omega) | omega) Ln_h804t808 Sp_h804t809 Al_h804t810 Cu_h804t811)
              ·
                have gh812 : my_fr [(4, 4), (4, 5), (4, 6), (4, 7), (4, 8), (4, 9), (5, 5), (5, 6), (5, 7), (5, 8), (5, 9), (32, -1), (33, -1), (34, -1), (35, -1), (36, -1), (37, -1), (38, -1), (39, -1)] h h812 := my_fr.tr gh792 (frh812.mo rfl)
                have Lo_h812 : Lo h h812 := Lo_ag (my_ag.fr frh812 rfl) Ln_h792 Lo_h792
                show wp l rho (d + 7) 49 110 [(2, 82), (0, 0), (0, 1), (0, 1), (0, 1), (0, 1)] [] h812 Q
                have tE823 : cs h792 = cs h := cs_eq (fun j => my_fr.at gh792 is_92 rfl) (my_fr.at gh792 is_82 rfl)
                rw [tE823] at xp814
                have ps824 : h792 82 7 = (sN (cs h) (h 82 7)) := xc800
                rw [ps824] at xp814
                have q2 : h792 82 2 = h 82 2 := my_fr.at frh792 is_82 rfl
                have q11 : h792 (h 82 2) 1 = h (h 82 2) 1 := my_fr.at frh792 n_Ln.2.2.2.1 rfl
                have q13 : h792 (h 82 2) 3 = h (h 82 2) 3 := my_fr.at frh792 n_Ln.2.2.2.1 rfl
                have q14 : h792 (h 82 2) 4 = h (h 82 2) 4 := my_fr.at frh792 n_Ln.2.2.2.1 rfl
                have q19 : h792 (h 82 2) 9 = h (h 82 2) 9 := my_fr.at frh792 n_Ln.2.2.2.1 rfl
                have qc : h792 2 = h 2 := funext (fun j => my_fr.at frh792 is_2 rfl)
                have zC := xp814
                simp only [q2, q11, q13, q14, q19, qc] at zC
                have st := xp815
                unfold Std at st
                simp only [q2, q11, q13, q14, q19, qc] at st
                refine w_goto (t := 140) gz_49_110 rfl ?_
                have psR : h812 82 7 = h812 82 7 := (rfl : h812 82 7 = h812 82 7)
                have npsR : cs h812 = cs h := cs_eq (fun j => my_fr.at gh812 is_92 rfl) (my_fr.at gh812 is_82 rfl)
                have c825 := w813
                exact w_vret gz_49_140 gm_49 (k1 h812 (gh812) (by omega) (by first | exact Lo_h812 | exact ⟨st.1, st.2.1, st.2.2.2.2⟩ | exact Or.inl ⟨by omega, zF, st.2.2.1, st.2.2.2.1⟩ | exact Or.inr (Or.inr (Or.inl ⟨by omega, by omega, zC, st.2.2.1, st.2.2.2.1⟩)) | exact Or.inr (Or.inr (Or.inr (Or.inl ⟨by omega, by omega, zW, st.2.2.2.1⟩))) | exact Or.inr (Or.inr (Or.inr (Or.inr (Or.inl ⟨by omega, by omega, zJ, fun _ => st.2.2.1, st.2.2.2.1⟩)))) | exact Or.inr (Or.inr (Or.inr (Or.inr (Or.inr (Or.inl ⟨by omega, by omega, zS, st.2.2.1, st.2.2.2.1⟩))))) | exact ⟨_, _, _, Or.inl ⟨by omega, zF, rfl, rfl⟩⟩ | exact ⟨_, _, _, Or.inr (Or.inr (Or.inl ⟨by omega, by omega, zC, rfl, rfl⟩))⟩ | exact ⟨_, _, _, Or.inr (Or.inr (Or.inr (Or.inl ⟨by omega, by omega, zW, rfl⟩)))⟩ | exact ⟨_, _, _, Or.inr (Or.inr (Or.inr (Or.inr (Or.inl ⟨by omega, by omega, zJ, fun q => absurd q (by omega), rfl⟩))))⟩ | exact ⟨_, _, _, Or.inr (Or.inr (Or.inr (Or.inr (Or.inr (Or.inl ⟨by omega, by omega, zS, rfl, rfl⟩)))))⟩ | exact ⟨0, 0, 0, Or.inr (Or.inl ⟨by omega, by omega, by omega⟩)⟩ | exact ⟨0, 0, 0, Or.inr (Or.inr (Or.inr (Or.inr (Or.inr (Or.inr ⟨by omega, by omega, by omega, by omega, by omega, by omega⟩)))))⟩ | (exfalso; omega) | omega) (by first | exact Lo_h812 | exact ⟨st.1, st.2.1, st.2.2.2.2⟩ | exact Or.inl ⟨by omega, zF, st.2.2.1, st.2.2.2.1⟩ | exact Or.inr (Or.inr (Or.inl ⟨by omega, by omega, zC, st.2.2.1, st.2.2.2.1⟩)) | exact Or.inr (Or.inr (Or.inr (Or.inl ⟨by omega, by omega, zW, st.2.2.2.1⟩))) | exact Or.inr (Or.inr (Or.inr (Or.inr (Or.inl ⟨by omega, by omega, zJ, fun _ => st.2.2.1, st.2.2.2.1⟩)))) | exact Or.inr (Or.inr (Or.inr (Or.inr (Or.inr (Or.inl ⟨by omega, by omega, zS, st.2.2.1, st.2.2.2.1⟩))))) | exact ⟨_, _, _, Or.inl ⟨by omega, zF, rfl, rfl⟩⟩ | exact ⟨_, _, _, Or.inr (Or.inr (Or.inl ⟨by omega, by omega, zC, rfl, rfl⟩))⟩ | exact ⟨_, _, _, Or.inr (Or.inr (Or.inr (Or.inl ⟨by omega, by omega, zW, rfl⟩)))⟩ | exact ⟨_, _, _, Or.inr (Or.inr (Or.inr (Or.inr (Or.inl ⟨by omega, by omega, zJ, fun q => absurd q (by omega), rfl⟩))))⟩ | exact ⟨_, _, _, Or.inr (Or.inr (Or.inr (Or.inr (Or.inr (Or.inl ⟨by omega, by omega, zS, rfl, rfl⟩)))))⟩ | exact ⟨0, 0, 0, Or.inr (Or.inl ⟨by omega, by omega, by omega⟩)⟩ | exact ⟨0, 0, 0, Or.inr (Or.inr (Or.inr (Or.inr (Or.inr (Or.inr ⟨by omega, by omega, by omega, by omega, by omega, by omega⟩)))))⟩ | (exfalso; omega) | omega) (by first | exact Lo_h812 | exact ⟨st.1, st.2.1, st.2.2.2.2⟩ | exact Or.inl ⟨by omega, zF, st.2.2.1, st.2.2.2.1⟩ | exact Or.inr (Or.inr (Or.inl ⟨by omega, by omega, zC, st.2.2.1, st.2.2.2.1⟩)) | exact Or.inr (Or.inr (Or.inr (Or.inl ⟨by omega, by omega, zW, st.2.2.2.1⟩))) | exact Or.inr (Or.inr (Or.inr (Or.inr (Or.inl ⟨by omega, by omega, zJ, fun _ => st.2.2.1, st.2.2.2.1⟩)))) | exact Or.inr (Or.inr (Or.inr (Or.inr (Or.inr (Or.inl ⟨by omega, by omega, zS, st.2.2.1, st.2.2.2.1⟩))))) | exact ⟨_, _, _, Or.inl ⟨by omega, zF, rfl, rfl⟩⟩ | exact ⟨_, _, _, Or.inr (Or.inr (Or.inl ⟨by omega, by omega, zC, rfl, rfl⟩))⟩ | exact ⟨_, _, _, Or.inr (Or.inr (Or.inr (Or.inl ⟨by omega, by omega, zW, rfl⟩)))⟩ | exact ⟨_, _, _, Or.inr (Or.inr (Or.inr (Or.inr (Or.inl ⟨by omega, by omega, zJ, fun q => absurd q (by omega), rfl⟩))))⟩ | exact ⟨_, _, _, Or.inr (Or.inr (Or.inr (Or.inr (Or.inr (Or.inl ⟨by omega, by omega, zS, rfl, rfl⟩)))))⟩ | exact ⟨0, 0, 0, Or.inr (Or.inl ⟨by omega, by omega, by omega⟩)⟩ | exact ⟨0, 0, 0, Or.inr (Or.inr (Or.inr (Or.inr (Or.inr (Or.inr ⟨by omega, by omega, by omega, by omega, by omega, by omega⟩)))))⟩ | (exfalso; omega) | omega) Ln_h812t816 Sp_h812t817 Al_h812t818 Cu_h812t819)
            ·
              refine w_aload_n gz_49_81 rfl ?_
              refine w_iconst gz_49_82 (by decide) ?_
              refine w_inv (k := 0) (as := [(0, 5)]) (r := []) (x := 82) (ls0 := [(2, 82), (0, 5)]) gz_49_83 gm_42 rfl is_82 rd_5 rfl rfl rfl rfl rfl ?_
              refine w_aload_n gz_42_0 rfl ?_
              refine v_getI (j := 9) gz_42_1 rfl is_82 rd_5 rfl (fun v826 ev826 pv826 qv826 => ?_)
              have zv826 := ev826.trans cf
              refine w_ifne (t := 20) gz_42_4 rfl (fun u827 => by exfalso; omega) (fun u827 => ?_)
              refine w_aload_n gz_42_7 rfl ?_
              refine w_iload_n gz_42_8 rfl ?_
              refine w_bipush gz_42_9 (by decide) ?_
              refine w_aload_n gz_42_11 rfl ?_
              refine v_getI (j := 7) gz_42_12 rfl is_82 rd_5 rfl (fun v828 ev828 pv828 qv828 => ?_)
              refine w_imul gz_42_15 ⟨by omega, by omega⟩ ?_
              refine w_iadd gz_42_16 ⟨by omega, by omega⟩ ?_
              refine v_putI (j := 9) gz_42_17 rfl is_82 rd_5 rfl (by omega) (by omega) rfl (fun h829 fh829 => ?_)
              have gh829 : my_fr [(4, 4), (4, 5), (4, 6), (4, 7), (4, 8), (4, 9), (5, 5), (5, 6), (5, 7), (5, 8), (5, 9), (32, -1), (33, -1), (34, -1), (35, -1), (36, -1), (37, -1), (38, -1), (39, -1)] h h829 := my_fr.up my_fr.rf is_82 fh829 rfl
              have Ln_h829 : Ln h829 := Ln_ag (my_ag.up fh829 is_82 rfl) n_Ln
              have Sp_h829 : Sp h829 wv := Sp_ag (my_ag.up fh829 is_82 rfl) hwv n_Ln n_Sp
              have Al_h829 : Al h829 := Al_ag (my_ag.up fh829 is_82 rfl) n_Al
              have Cu_h829 : Cu h829 := Cu_ag (my_ag.up fh829 is_82 rfl) n_Cu
              have Lo_h829 : Lo h h829 := Lo_ag (my_ag.up fh829 is_82 rfl) n_Ln (Lo_rf)
              refine w_vret gz_42_20 gm_42 ?_
              show wp l rho (d + 7) 49 86 [(2, 82), (0, 0), (0, 1), (0, 1), (0, 1), (0, 1)] [] h829 Q
              have psR : h829 82 7 = h 82 7 := ((my_up_fld fh829 (by decide)).trans (rfl : h 82 7 = h 82 7))
              have npsR : cs h829 = cs h := cs_eq (fun j => my_fr.at gh829 is_92 rfl) (my_fr.at gh829 is_82 rfl)
              have c830 := (my_up_self fh829)
              exact w_vret gz_49_86 gm_49 (k0 h829 (gh829) (by omega) (by omega) (by first | exact Lo_h829 | exact ⟨st.1, st.2.1, st.2.2.2.2⟩ | exact Or.inl ⟨by omega, zF, st.2.2.1, st.2.2.2.1⟩ | exact Or.inr (Or.inr (Or.inl ⟨by omega, by omega, zC, st.2.2.1, st.2.2.2.1⟩)) | exact Or.inr (Or.inr (Or.inr (Or.inl ⟨by omega, by omega, zW, st.2.2.2.1⟩))) | exact Or.inr (Or.inr (Or.inr (Or.inr (Or.inl ⟨by omega, by omega, zJ, fun _ => st.2.2.1, st.2.2.2.1⟩)))) | exact Or.inr (Or.inr (Or.inr (Or.inr (Or.inr (Or.inl ⟨by omega, by omega, zS, st.2.2.1, st.2.2.2.1⟩))))) | exact ⟨_, _, _, Or.inl ⟨by omega, zF, rfl, rfl⟩⟩ | exact ⟨_, _, _, Or.inr (Or.inr (Or.inl ⟨by omega, by omega, zC, rfl, rfl⟩))⟩ | exact ⟨_, _, _, Or.inr (Or.inr (Or.inr (Or.inl ⟨by omega, by omega, zW, rfl⟩)))⟩ | exact ⟨_, _, _, Or.inr (Or.inr (Or.inr (Or.inr (Or.inl ⟨by omega, by omega, zJ, fun q => absurd q (by omega), rfl⟩))))⟩ | exact ⟨_, _, _, Or.inr (Or.inr (Or.inr (Or.inr (Or.inr (Or.inl ⟨by omega, by omega, zS, rfl, rfl⟩)))))⟩ | exact ⟨0, 0, 0, Or.inr (Or.inl ⟨by omega, by omega, by omega⟩)⟩ | exact ⟨0, 0, 0, Or.inr (Or.inr (Or.inr (Or.inr (Or.inr (Or.inr ⟨by omega, by omega, by omega, by omega, by omega, by omega⟩)))))⟩ | (exfalso; omega) | omega) (by first | exact Lo_h829 | exact ⟨st.1, st.2.1, st.2.2.2.2⟩ | exact Or.inl ⟨by omega, zF, st.2.2.1, st.2.2.2.1⟩ | exact Or.inr (Or.inr (Or.inl ⟨by omega, by omega, zC, st.2.2.1, st.2.2.2.1⟩)) | exact Or.inr (Or.inr (Or.inr (Or.inl ⟨by omega, by omega, zW, st.2.2.2.1⟩))) | exact Or.inr (Or.inr (Or.inr (Or.inr (Or.inl ⟨by omega, by omega, zJ, fun _ => st.2.2.1, st.2.2.2.1⟩)))) | exact Or.inr (Or.inr (Or.inr (Or.inr (Or.inr (Or.inl ⟨by omega, by omega, zS, st.2.2.1, st.2.2.2.1⟩))))) | exact ⟨_, _, _, Or.inl ⟨by omega, zF, rfl, rfl⟩⟩ | exact ⟨_, _, _, Or.inr (Or.inr (Or.inl ⟨by omega, by omega, zC, rfl, rfl⟩))⟩ | exact ⟨_, _, _, Or.inr (Or.inr (Or.inr (Or.inl ⟨by omega, by omega, zW, rfl⟩)))⟩ | exact ⟨_, _, _, Or.inr (Or.inr (Or.inr (Or.inr (Or.inl ⟨by omega, by omega, zJ, fun q => absurd q (by omega), rfl⟩))))⟩ | exact ⟨_, _, _, Or.inr (Or.inr (Or.inr (Or.inr (Or.inr (Or.inl ⟨by omega, by omega, zS, rfl, rfl⟩)))))⟩ | exact ⟨0, 0, 0, Or.inr (Or.inl ⟨by omega, by omega, by omega⟩)⟩ | exact ⟨0, 0, 0, Or.inr (Or.inr (Or.inr (Or.inr (Or.inr (Or.inr ⟨by omega, by omega, by omega, by omega, by omega, by omega⟩)))))⟩ | (exfalso; omega) | omega) Ln_h829 Sp_h829 Al_h829 Cu_h829)
  ·
    show wp l rho (d + 7) 49 6 [(2, 82), (9, 0), (9, 0), (9, 0), (9, 0), (9, 0)] [(0, 1)] h Q
    rw [show wc ((4 : Nat) : Int) = 316695 from by decide] at xp6
    refine w_istore_n (ls' := [(2, 82), (0, 1), (9, 0), (9, 0), (9, 0), (9, 0)]) gz_49_6 gm_49 rfl rfl rfl ?_
    refine w_aload_n gz_49_7 rfl ?_
    refine w_ldcS gz_49_8 (by decide) ?_
    refine w_inv (k := 1) (as := [(3, ((5 : Nat) : Int))]) (r := []) (x := 82) (ls0 := [(2, 82), (3, ((5 : Nat) : Int)), (9, 0)]) gz_49_10 gm_41 rfl is_82 rd_5 rfl rfl rfl rfl rfl (c_Reader_isWord9_f0 (d := (d + 2)) (x1 := ((5 : Nat) : Int)) (by decide) (cf.trans (by omega)) n_Cu (fun w831 xp832 => ?_) (fun w833 w834 xp835 => ?_))
    ·
      show wp l rho (d + 7) 49 13 [(2, 82), (0, 1), (9, 0), (9, 0), (9, 0), (9, 0)] [(0, 0)] h Q
      rw [show wc ((5 : Nat) : Int) = 4904 from by decide] at xp832
      refine w_istore_n (ls' := [(2, 82), (0, 1), (0, 0), (9, 0), (9, 0), (9, 0)]) gz_49_13 gm_49 rfl rfl rfl ?_
      refine w_aload_n gz_49_14 rfl ?_
      refine w_ldcS gz_49_15 (by decide) ?_
      refine w_inv (k := 1) (as := [(3, ((6 : Nat) : Int))]) (r := []) (x := 82) (ls0 := [(2, 82), (3, ((6 : Nat) : Int)), (9, 0)]) gz_49_17 gm_41 rfl is_82 rd_5 rfl rfl rfl rfl rfl (c_Reader_isWord9_f0 (d := (d + 2)) (x1 := ((6 : Nat) : Int)) (by decide) (cf.trans (by omega)) n_Cu (fun w836 xp837 => ?_) (fun w838 w839 xp840 => ?_))
      ·
        show wp l rho (d + 7) 49 20 [(2, 82), (0, 1), (0, 0), (9, 0), (9, 0), (9, 0)] [(0, 0)] h Q
        rw [show wc ((6 : Nat) : Int) = 8422 from by decide] at xp837
        refine w_istore_n (ls' := [(2, 82), (0, 1), (0, 0), (0, 0), (9, 0), (9, 0)]) gz_49_20 gm_49 rfl rfl rfl ?_
        refine w_aload_n gz_49_21 rfl ?_
        refine w_ldcS gz_49_22 (by decide) ?_
        refine w_inv (k := 1) (as := [(3, ((7 : Nat) : Int))]) (r := []) (x := 82) (ls0 := [(2, 82), (3, ((7 : Nat) : Int)), (9, 0)]) gz_49_24 gm_41 rfl is_82 rd_5 rfl rfl rfl rfl rfl (c_Reader_isWord9_f0 (d := (d + 2)) (x1 := ((7 : Nat) : Int)) (by decide) (cf.trans (by omega)) n_Cu (fun w841 xp842 => ?_) (fun w843 w844 xp845 => ?_))
        ·
          show wp l rho (d + 7) 49 27 [(2, 82), (0, 1), (0, 0), (0, 0), (9, 0), (9, 0)] [(0, 0)] h Q
          rw [show wc ((7 : Nat) : Int) = 527412 from by decide] at xp842
          refine w_istore (ls' := [(2, 82), (0, 1), (0, 0), (0, 0), (0, 0), (9, 0)]) gz_49_27 gm_49 rfl rfl rfl ?_
          refine w_aload_n gz_49_29 rfl ?_
          refine w_ldcS gz_49_30 (by decide) ?_
          refine w_inv (k := 1) (as := [(3, ((8 : Nat) : Int))]) (r := []) (x := 82) (ls0 := [(2, 82), (3, ((8 : Nat) : Int)), (9, 0)]) gz_49_32 gm_41 rfl is_82 rd_5 rfl rfl rfl rfl rfl (c_Reader_isWord9_f0 (d := (d + 2)) (x1 := ((8 : Nat) : Int)) (by decide) (cf.trans (by omega)) n_Cu (fun w846 xp847 => ?_) (fun w848 w849 xp850 => ?_))
          ·
            show wp l rho (d + 7) 49 35 [(2, 82), (0, 1), (0, 0), (0, 0), (0, 0), (9, 0)] [(0, 0)] h Q
            rw [show wc ((8 : Nat) : Int) = 26801 from by decide] at xp847
            refine w_istore (ls' := [(2, 82), (0, 1), (0, 0), (0, 0), (0, 0), (0, 0)]) gz_49_35 gm_49 rfl rfl rfl ?_
            refine w_iload_n gz_49_37 rfl ?_
            refine w_ifne (t := 65) gz_49_38 rfl (fun u851 => ?_) (fun u851 => by exfalso; omega)
            refine w_iload_n gz_49_65 rfl ?_
            refine w_ifne (t := 87) gz_49_66 rfl (fun u852 => ?_) (fun u852 => by exfalso; omega)
            refine w_aload_n gz_49_87 rfl ?_
            refine w_inv (k := 2) (as := []) (r := []) (x := 82) (ls0 := [(2, 82), (9, 0), (9, 0)]) gz_49_88 gm_37 rfl is_82 rd_5 rfl rfl rfl rfl rfl (c_Reader_nextToken9_f0 (d := (d + 5))  (cf.trans (by omega)) n_Al (fun h853 frh853 w854 w855 w856 xp857 xp858 Al_h853t859 Cu_h853t860 => ?_))
            have gh853 : my_fr [(4, 4), (4, 5), (4, 6), (4, 7), (4, 8), (4, 9), (5, 5), (5, 6), (5, 7), (5, 8), (5, 9), (32, -1), (33, -1), (34, -1), (35, -1), (36, -1), (37, -1), (38, -1), (39, -1)] h h853 := my_fr.tr my_fr.rf (frh853.mo rfl)
            have Ln_h853 : Ln h853 := Ln_ag (my_ag.fr frh853 rfl) n_Ln
            have Sp_h853 : Sp h853 wv := Sp_ag (my_ag.fr frh853 rfl) hwv n_Ln n_Sp
            have Lo_h853 : Lo h h853 := Lo_ag (my_ag.fr frh853 rfl) n_Ln (Lo_rf)
            show wp l rho (d + 7) 49 91 [(2, 82), (0, 1), (0, 0), (0, 0), (0, 0), (0, 0)] [] h853 Q
            have xc861 := xp857 n_Cu
            have ck862 := Cu_s Cu_h853t860
            rw [show cs h853 = cs h from cs_eq (fun j => my_fr.at gh853 is_92 rfl) (my_fr.at gh853 is_82 rfl)] at ck862
            rw [show h853 82 7 = (sN (cs h) (h 82 7)) from xc861] at ck862
            refine w_iload_n gz_49_91 rfl ?_
            refine w_ifeq (t := 102) gz_49_92 rfl (fun u863 => by exfalso; omega) (fun u863 => ?_)
            refine w_aload_n gz_49_95 rfl ?_
            refine w_inv (k := 2) (as := []) (r := []) (x := 82) (ls0 := [(2, 82), (9, 0), (9, 0)]) gz_49_96 gm_50 rfl is_82 rd_5 rfl rfl rfl rfl rfl (c_Reader_readFill9_f0 (d := (d + 3))  (((my_fr.at frh853 is_82 rfl).trans cf).trans (by omega)) Al_h853t859 Cu_h853t860 (fun h864 frh864 w865 w866 xp867 Al_h864t868 Cu_h864t869 => ?_) (fun h870 frh870 w871 xp872 Al_h870t873 Cu_h870t874 => ?_))
            ·
              have gh864 : my_fr [(4, 4), (4, 5), (4, 6), (4, 7), (4, 8), (4, 9), (5, 5), (5, 6), (5, 7), (5, 8), (5, 9), (32, -1), (33, -1), (34, -1), (35, -1), (36, -1), (37, -1), (38, -1), (39, -1)] h h864 := my_fr.tr gh853 (frh864.mo rfl)
              have Ln_h864 : Ln h864 := Ln_ag (my_ag.fr frh864 rfl) Ln_h853
              have Sp_h864 : Sp h864 wv := Sp_ag (my_ag.fr frh864 rfl) hwv Ln_h853 Sp_h853
              have Lo_h864 : Lo h h864 := Lo_ag (my_ag.fr frh864 rfl) Ln_h853 Lo_h853
              show wp l rho (d + 7) 49 99 [(2, 82), (0, 1), (0, 0), (0, 0), (0, 0), (0, 0)] [] h864 Q
              have tE875 : cs h853 = cs h := cs_eq (fun j => my_fr.at gh853 is_92 rfl) (my_fr.at gh853 is_82 rfl)
              rw [tE875] at xp867
              have ps876 : h853 82 7 = (sN (cs h) (h 82 7)) := xc861
              rw [ps876] at xp867
              have q2 : h853 82 2 = h 82 2 := my_fr.at frh853 is_82 rfl
              have q11 : h853 (h 82 2) 1 = h (h 82 2) 1 := my_fr.at frh853 n_Ln.2.2.2.1 rfl
              have q13 : h853 (h 82 2) 3 = h (h 82 2) 3 := my_fr.at frh853 n_Ln.2.2.2.1 rfl
              have q14 : h853 (h 82 2) 4 = h (h 82 2) 4 := my_fr.at frh853 n_Ln.2.2.2.1 rfl
              have q19 : h853 (h 82 2) 9 = h (h 82 2) 9 := my_fr.at frh853 n_Ln.2.2.2.1 rfl
              have qc : h853 2 = h 2 := funext (fun j => my_fr.at frh853 is_2 rfl)
              have zF := xp867
              simp only [q2, q11, q13, q14, q19, qc] at zF
              have st : h864 82 2 = h 82 2 ∧ h864 (h 82 2) 3 = h (h 82 2) 3 ∧ h864 (h 82 2) 4 = h (h 82 2) 4 ∧ h864 (h 82 2) 9 = h (h 82 2) 9 ∧ h864 (h 82 2) 1 = h (h 82 2) 1 := ⟨(my_fr.at frh864 is_82 rfl).trans q2, (my_fr.at frh864 n_Ln.2.2.2.1 rfl).trans q13, (my_fr.at frh864 n_Ln.2.2.2.1 rfl).trans q14, (my_fr.at frh864 n_Ln.2.2.2.1 rfl).trans q19, (my_fr.at frh864 n_Ln.2.2.2.1 rfl).trans q11⟩
              refine w_goto (t := 140) gz_49_99 rfl ?_
              have psR : h864 82 7 = h864 82 7 := (rfl : h864 82 7 = h864 82 7)
              have npsR : cs h864 = cs h := cs_eq (fun j => my_fr.at gh864 is_92 rfl) (my_fr.at gh864 is_82 rfl)
              have c877 := (rfl : h864 82 9 = h864 82 9)
              exact w_vret gz_49_140 gm_49 (k0 h864 (gh864) (by omega) (by omega) (by first | exact Lo_h864 | exact ⟨st.1, st.2.1, st.2.2.2.2⟩ | exact Or.inl ⟨by omega, zF, st.2.2.1, st.2.2.2.1⟩ | exact Or.inr (Or.inr (Or.inl ⟨by omega, by omega, zC, st.2.2.1, st.2.2.2.1⟩)) | exact Or.inr (Or.inr (Or.inr (Or.inl ⟨by omega, by omega, zW, st.2.2.2.1⟩))) | exact Or.inr (Or.inr (Or.inr (Or.inr (Or.inl ⟨by omega, by omega, zJ, fun _ => st.2.2.1, st.2.2.2.1⟩)))) | exact Or.inr (Or.inr (Or.inr (Or.inr (Or.inr (Or.inl ⟨by omega, by omega, zS, st.2.2.1, st.2.2.2.1⟩))))) | exact ⟨_, _, _, Or.inl ⟨by omega, zF, rfl, rfl⟩⟩ | exact ⟨_, _, _, Or.inr (Or.inr (Or.inl ⟨by omega, by omega, zC, rfl, rfl⟩))⟩ | exact ⟨_, _, _, Or.inr (Or.inr (Or.inr (Or.inl ⟨by omega, by omega, zW, rfl⟩)))⟩ | exact ⟨_, _, _, Or.inr (Or.inr (Or.inr (Or.inr (Or.inl ⟨by omega, by omega, zJ, fun q => absurd q (by omega), rfl⟩))))⟩ | exact ⟨_, _, _, Or.inr (Or.inr (Or.inr (Or.inr (Or.inr (Or.inl ⟨by omega, by omega, zS, rfl, rfl⟩)))))⟩ | exact ⟨0, 0, 0, Or.inr (Or.inl ⟨by omega, by omega, by omega⟩)⟩ | exact ⟨0, 0, 0, Or.inr (Or.inr (Or.inr (Or.inr (Or.inr (Or.inr ⟨by omega, by omega, by omega, by omega, by omega, by omega⟩)))))⟩ | (exfalso; omega) | omega) (by first | exact Lo_h864 | exact ⟨st.1, st.2.1, st.2.2.2.2⟩ | exact Or.inl ⟨by omega, zF, st.2.2.1, st.2.2.2.1⟩ | exact Or.inr (Or.inr (Or.inl ⟨by omega, by omega, zC, st.2.2.1, st.2.2.2.1⟩)) | exact Or.inr (Or.inr (Or.inr (Or.inl ⟨by omega, by omega, zW, st.2.2.2.1⟩))) | exact Or.inr (Or.inr (Or.inr (Or.inr (Or.inl ⟨by omega, by omega, zJ, fun _ => st.2.2.1, st.2.2.2.1⟩)))) | exact Or.inr (Or.inr (Or.inr (Or.inr (Or.inr (Or.inl ⟨by omega, by omega, zS, st.2.2.1, st.2.2.2.1⟩))))) | exact ⟨_, _, _, Or.inl ⟨by omega, zF, rfl, rfl⟩⟩ | exact ⟨_, _, _, Or.inr (Or.inr (Or.inl ⟨by omega, by omega, zC, rfl, rfl⟩))⟩ | exact ⟨_, _, _, Or.inr (Or.inr (Or.inr (Or.inl ⟨by omega, by omega, zW, rfl⟩)))⟩ | exact ⟨_, _, _, Or.inr (Or.inr (Or.inr (Or.inr (Or.inl ⟨by omega, by omega, zJ, fun q => absurd q (by omega), rfl⟩))))⟩ | exact ⟨_, _, _, Or.inr (Or.inr (Or.inr (Or.inr (Or.inr (Or.inl ⟨by omega, by omega, zS, rfl, rfl⟩)))))⟩ | exact ⟨0, 0, 0, Or.inr (Or.inl ⟨by omega, by omega, by omega⟩)⟩ | exact ⟨0, 0, 0, Or.inr (Or.inr (Or.inr (Or.inr (Or.inr (Or.inr ⟨by omega, by omega, by omega, by omega, by omega, by omega⟩)))))⟩ | (exfalso; omega) | omega) Ln_h864 Sp_h864 Al_h864t868 Cu_h864t869)
            ·
              have gh870 : my_fr [(4, 4), (4, 5), (4, 6), (4, 7), (4, 8), (4, 9), (5, 5), (5, 6), (5, 7), (5, 8), (5, 9), (32, -1), (33, -1), (34, -1), (35, -1), (36, -1), (37, -1), (38, -1), (39, -1)] h h870 := my_fr.tr gh853 (frh870.mo rfl)
              have Ln_h870 : Ln h870 := Ln_ag (my_ag.fr frh870 rfl) Ln_h853
              have Sp_h870 : Sp h870 wv := Sp_ag (my_ag.fr frh870 rfl) hwv Ln_h853 Sp_h853
              have Lo_h870 : Lo h h870 := Lo_ag (my_ag.fr frh870 rfl) Ln_h853 Lo_h853
              show wp l rho (d + 7) 49 99 [(2, 82), (0, 1), (0, 0), (0, 0), (0, 0), (0, 0)] [] h870 Q
              have tE878 : cs h853 = cs h := cs_eq (fun j => my_fr.at gh853 is_92 rfl) (my_fr.at gh853 is_82 rfl)
              rw [tE878] at xp872
              have ps879 : h853 82 7 = (sN (cs h) (h 82 7)) := xc861
              rw [ps879] at xp872
              have q2 : h853 82 2 = h 82 2 := my_fr.at frh853 is_82 rfl
              have q11 : h853 (h 82 2) 1 = h (h 82 2) 1 := my_fr.at frh853 n_Ln.2.2.2.1 rfl
              have q13 : h853 (h 82 2) 3 = h (h 82 2) 3 := my_fr.at frh853 n_Ln.2.2.2.1 rfl
              have q14 : h853 (h 82 2) 4 = h (h 82 2) 4 := my_fr.at frh853 n_Ln.2.2.2.1 rfl
              have q19 : h853 (h 82 2) 9 = h (h 82 2) 9 := my_fr.at frh853 n_Ln.2.2.2.1 rfl
              have qc : h853 2 = h 2 := funext (fun j => my_fr.at frh853 is_2 rfl)
              have zF := xp872
              simp only [q2, q11, q13, q14, q19, qc] at zF
              have st : h870 82 2 = h 82 2 ∧ h870 (h 82 2) 3 = h (h 82 2) 3 ∧ h870 (h 82 2) 4 = h (h 82 2) 4 ∧ h870 (h 82 2) 9 = h (h 82 2) 9 ∧ h870 (h 82 2) 1 = h (h 82 2) 1 := ⟨(my_fr.at frh870 is_82 rfl).trans q2, (my_fr.at frh870 n_Ln.2.2.2.1 rfl).trans q13, (my_fr.at frh870 n_Ln.2.2.2.1 rfl).trans q14, (my_fr.at frh870 n_Ln.2.2.2.1 rfl).trans q19, (my_fr.at frh870 n_Ln.2.2.2.1 rfl).trans q11⟩
              refine w_goto (t := 140) gz_49_99 rfl ?_
              have psR : h870 82 7 = h870 82 7 := (rfl : h870 82 7 = h870 82 7)
              have npsR : cs h870 = cs h := cs_eq (fun j => my_fr.at gh870 is_92 rfl) (my_fr.at gh870 is_82 rfl)
              have c880 := w871
              exact w_vret gz_49_140 gm_49 (k1 h870 (gh870) (by omega) (by first | exact Lo_h870 | exact ⟨st.1, st.2.1, st.2.2.2.2⟩ | exact Or.inl ⟨by omega, zF, st.2.2.1, st.2.2.2.1⟩ | exact Or.inr (Or.inr (Or.inl ⟨by omega, by omega, zC, st.2.2.1, st.2.2.2.1⟩)) | exact Or.inr (Or.inr (Or.inr (Or.inl ⟨by omega, by omega, zW, st.2.2.2.1⟩))) | exact Or.inr (Or.inr (Or.inr (Or.inr (Or.inl ⟨by omega, by omega, zJ, fun _ => st.2.2.1, st.2.2.2.1⟩)))) | exact Or.inr (Or.inr (Or.inr (Or.inr (Or.inr (Or.inl ⟨by omega, by omega, zS, st.2.2.1, st.2.2.2.1⟩))))) | exact ⟨_, _, _, Or.inl ⟨by omega, zF, rfl, rfl⟩⟩ | exact ⟨_, _, _, Or.inr (Or.inr (Or.inl ⟨by omega, by omega, zC, rfl, rfl⟩))⟩ | exact ⟨_, _, _, Or.inr (Or.inr (Or.inr (Or.inl ⟨by omega, by omega, zW, rfl⟩)))⟩ | exact ⟨_, _, _, Or.inr (Or.inr (Or.inr (Or.inr (Or.inl ⟨by omega, by omega, zJ, fun q => absurd q (by omega), rfl⟩))))⟩ | exact ⟨_, _, _, Or.inr (Or.inr (Or.inr (Or.inr (Or.inr (Or.inl ⟨by omega, by omega, zS, rfl, rfl⟩)))))⟩ | exact ⟨0, 0, 0, Or.inr (Or.inl ⟨by omega, by omega, by omega⟩)⟩ | exact ⟨0, 0, 0, Or.inr (Or.inr (Or.inr (Or.inr (Or.inr (Or.inr ⟨by omega, by omega, by omega, by omega, by omega, by omega⟩)))))⟩ | (exfalso; omega) | omega) (by first | exact Lo_h870 | exact ⟨st.1, st.2.1, st.2.2.2.2⟩ | exact Or.inl ⟨by omega, zF, st.2.2.1, st.2.2.2.1⟩ | exact Or.inr (Or.inr (Or.inl ⟨by omega, by omega, zC, st.2.2.1, st.2.2.2.1⟩)) | exact Or.inr (Or.inr (Or.inr (Or.inl ⟨by omega, by omega, zW, st.2.2.2.1⟩))) | exact Or.inr (Or.inr (Or.inr (Or.inr (Or.inl ⟨by omega, by omega, zJ, fun _ => st.2.2.1, st.2.2.2.1⟩)))) | exact Or.inr (Or.inr (Or.inr (Or.inr (Or.inr (Or.inl ⟨by omega, by omega, zS, st.2.2.1, st.2.2.2.1⟩))))) | exact ⟨_, _, _, Or.inl ⟨by omega, zF, rfl, rfl⟩⟩ | exact ⟨_, _, _, Or.inr (Or.inr (Or.inl ⟨by omega, by omega, zC, rfl, rfl⟩))⟩ | exact ⟨_, _, _, Or.inr (Or.inr (Or.inr (Or.inl ⟨by omega, by omega, zW, rfl⟩)))⟩ | exact ⟨_, _, _, Or.inr (Or.inr (Or.inr (Or.inr (Or.inl ⟨by omega, by omega, zJ, fun q => absurd q (by omega), rfl⟩))))⟩ | exact ⟨_, _, _, Or.inr (Or.inr (Or.inr (Or.inr (Or.inr (Or.inl ⟨by omega, by omega, zS, rfl, rfl⟩)))))⟩ | exact ⟨0, 0, 0, Or.inr (Or.inl ⟨by omega, by omega, by omega⟩)⟩ | exact ⟨0, 0, 0, Or.inr (Or.inr (Or.inr (Or.inr (Or.inr (Or.inr ⟨by omega, by omega, by omega, by omega, by omega, by omega⟩)))))⟩ | (exfalso; omega) | omega) (by first | exact Lo_h870 | exact ⟨st.1, st.2.1, st.2.2.2.2⟩ | exact Or.inl ⟨by omega, zF, st.2.2.1, st.2.2.2.1⟩ | exact Or.inr (Or.inr (Or.inl ⟨by omega, by omega, zC, st.2.2.1, st.2.2.2.1⟩)) | exact Or.inr (Or.inr (Or.inr (Or.inl ⟨by omega, by omega, zW, st.2.2.2.1⟩))) | exact Or.inr (Or.inr (Or.inr (Or.inr (Or.inl ⟨by omega, by omega, zJ, fun _ => st.2.2.1, st.2.2.2.1⟩)))) | exact Or.inr (Or.inr (Or.inr (Or.inr (Or.inr (Or.inl ⟨by omega, by omega, zS, st.2.2.1, st.2.2.2.1⟩))))) | exact ⟨_, _, _, Or.inl ⟨by omega, zF, rfl, rfl⟩⟩ | exact ⟨_, _, _, Or.inr (Or.inr (Or.inl ⟨by omega, by omega, zC, rfl, rfl⟩))⟩ | exact ⟨_, _, _, Or.inr (Or.inr (Or.inr (Or.inl ⟨by omega, by omega, zW, rfl⟩)))⟩ | exact ⟨_, _, _, Or.inr (Or.inr (Or.inr (Or.inr (Or.inl ⟨by omega, by omega, zJ, fun q => absurd q (by omega), rfl⟩))))⟩ | exact ⟨_, _, _, Or.inr (Or.inr (Or.inr (Or.inr (Or.inr (Or.inl ⟨by omega, by omega, zS, rfl, rfl⟩)))))⟩ | exact ⟨0, 0, 0, Or.inr (Or.inl ⟨by omega, by omega, by omega⟩)⟩ | exact ⟨0, 0, 0, Or.inr (Or.inr (Or.inr (Or.inr (Or.inr (Or.inr ⟨by omega, by omega, by omega, by omega, by omega, by omega⟩)))))⟩ | (exfalso; omega) | omega) Ln_h870 Sp_h870 Al_h870t873 Cu_h870t874)
          ·
            show wp l rho (d + 7) 49 35 [(2, 82), (0, 1), (0, 0), (0, 0), (0, 0), (9, 0)] [(0, 1)] h Q
            rw [show wc ((8 : Nat) : Int) = 26801 from by decide] at xp850
            refine w_istore (ls' := [(2, 82), (0, 1), (0, 0), (0, 0), (0, 0), (0, 1)]) gz_49_35 gm_49 rfl rfl rfl ?_
            refine w_iload_n gz_49_37 rfl ?_
            refine w_ifne (t := 65) gz_49_38 rfl (fun u881 => ?_) (fun u881 => by exfalso; omega)
            refine w_iload_n gz_49_65 rfl ?_
            refine w_ifne (t := 87) gz_49_66 rfl (fun u882 => ?_) (fun u882 => by exfalso; omega)
            refine w_aload_n gz_49_87 rfl ?_
            refine w_inv (k := 2) (as := []) (r := []) (x := 82) (ls0 := [(2, 82), (9, 0), (9, 0)]) gz_49_88 gm_37 rfl is_82 rd_5 rfl rfl rfl rfl rfl (c_Reader_nextToken9_f0 (d := (d + 5))  (cf.trans (by omega)) n_Al (fun h883 frh883 w884 w885 w886 xp887 xp888 Al_h883t889 Cu_h883t890 => ?_))
            have gh883 : my_fr [(4, 4), (4, 5), (4, 6), (4, 7), (4, 8), (4, 9), (5, 5), (5, 6), (5, 7), (5, 8), (5, 9), (32, -1), (33, -1), (34, -1), (35, -1), (36, -1), (37, -1), (38, -1), (39, -1)] h h883 := my_fr.tr my_fr.rf (frh883.mo rfl)
            have Ln_h883 : Ln h883 := Ln_ag (my_ag.fr frh883 rfl) n_Ln
            have Sp_h883 : Sp h883 wv := Sp_ag (my_ag.fr frh883 rfl) hwv n_Ln n_Sp
            have Lo_h883 : Lo h h883 := Lo_ag (my_ag.fr frh883 rfl) n_Ln (Lo_rf)
            show wp l rho (d + 7) 49 91 [(2, 82), (0, 1), (0, 0), (0, 0), (0, 0), (0, 1)] [] h883 Q
            have xc891 := xp887 n_Cu
            have ck892 := Cu_s Cu_h883t890
            rw [show cs h883 = cs h from cs_eq (fun j => my_fr.at gh883 is_92 rfl) (my_fr.at gh883 is_82 rfl)] at ck892
            rw [show h883 82 7 = (sN (cs h) (h 82 7)) from xc891] at ck892
            refine w_iload_n gz_49_91 rfl ?_
            refine w_ifeq (t := 102) gz_49_92 rfl (fun u893 => by exfalso; omega) (fun u893 => ?_)
            refine w_aload_n gz_49_95 rfl ?_
            refine w_inv (k := 2) (as := []) (r := []) (x := 82) (ls0 := [(2, 82), (9, 0), (9, 0)]) gz_49_96 gm_50 rfl is_82 rd_5 rfl rfl rfl rfl rfl (c_Reader_readFill9_f0 (d := (d + 3))  (((my_fr.at frh883 is_82 rfl).trans cf).trans (by omega)) Al_h883t889 Cu_h883t890 (fun h894 frh894 w895 w896 xp897 Al_h894t898 Cu_h894t899 => ?_) (fun h900 frh900 w901 xp902 Al_h900t903 Cu_h900t904 => ?_))
            ·
              have gh894 : my_fr [(4, 4), (4, 5), (4, 6), (4, 7), (4, 8), (4, 9), (5, 5), (5, 6), (5, 7), (5, 8), (5, 9), (32, -1), (33, -1), (34, -1), (35, -1), (36, -1), (37, -1), (38, -1), (39, -1)] h h894 := my_fr.tr gh883 (frh894.mo rfl)
              have Ln_h894 : Ln h894 := Ln_ag (my_ag.fr frh894 rfl) Ln_h883
              have Sp_h894 : Sp h894 wv := Sp_ag (my_ag.fr frh894 rfl) hwv Ln_h883 Sp_h883
              have Lo_h894 : Lo h h894 := Lo_ag (my_ag.fr frh894 rfl) Ln_h883 Lo_h883
              show wp l rho (d + 7) 49 99 [(2, 82), (0, 1), (0, 0), (0, 0), (0, 0), (0, 1)] [] h894 Q
              have tE905 : cs h883 = cs h := cs_eq (fun j => my_fr.at gh883 is_92 rfl) (my_fr.at gh883 is_82 rfl)
              rw [tE905] at xp897
              have ps906 : h883 82 7 = (sN (cs h) (h 82 7)) := xc891
              rw [ps906] at xp897
              have q2 : h883 82 2 = h 82 2 := my_fr.at frh883 is_82 rfl
              have q11 : h883 (h 82 2) 1 = h (h 82 2) 1 := my_fr.at frh883 n_Ln.2.2.2.1 rfl
              have q13 : h883 (h 82 2) 3 = h (h 82 2) 3 := my_fr.at frh883 n_Ln.2.2.2.1 rfl
              have q14 : h883 (h 82 2) 4 = h (h 82 2) 4 := my_fr.at frh883 n_Ln.2.2.2.1 rfl
              have q19 : h883 (h 82 2) 9 = h (h 82 2) 9 := my_fr.at frh883 n_Ln.2.2.2.1 rfl
              have qc : h883 2 = h 2 := funext (fun j => my_fr.at frh883 is_2 rfl)
              have zF := xp897
              simp only [q2, q11, q13, q14, q19, qc] at zF
              have st : h894 82 2 = h 82 2 ∧ h894 (h 82 2) 3 = h (h 82 2) 3 ∧ h894 (h 82 2) 4 = h (h 82 2) 4 ∧ h894 (h 82 2) 9 = h (h 82 2) 9 ∧ h894 (h 82 2) 1 = h (h 82 2) 1 := ⟨(my_fr.at frh894 is_82 rfl).trans q2, (my_fr.at frh894 n_Ln.2.2.2.1 rfl).trans q13, (my_fr.at frh894 n_Ln.2.2.2.1 rfl).trans q14, (my_fr.at frh894 n_Ln.2.2.2.1 rfl).trans q19, (my_fr.at frh894 n_Ln.2.2.2.1 rfl).trans q11⟩
              refine w_goto (t := 140) gz_49_99 rfl ?_
              have psR : h894 82 7 = h894 82 7 := (rfl : h894 82 7 = h894 82 7)
              have npsR : cs h894 = cs h := cs_eq (fun j => my_fr.at gh894 is_92 rfl) (my_fr.at gh894 is_82 rfl)
              have c907 := (rfl : h894 82 9 = h894 82 9)
              exact w_vret gz_49_140 gm_49 (k0 h894 (gh894) (by omega) (by omega) (by first | exact Lo_h894 | exact ⟨st.1, st.2.1, st.2.2.2.2⟩ | exact Or.inl ⟨by omega, zF, st.2.2.1, st.2.2.2.1⟩ | exact Or.inr (Or.inr (Or.inl ⟨by omega, by omega, zC, st.2.2.1, st.2.2.2.1⟩)) | exact Or.inr (Or.inr (Or.inr (Or.inl ⟨by omega, by omega, zW, st.2.2.2.1⟩))) | exact Or.inr (Or.inr (Or.inr (Or.inr (Or.inl ⟨by omega, by omega, zJ, fun _ => st.2.2.1, st.2.2.2.1⟩)))) | exact Or.inr (Or.inr (Or.inr (Or.inr (Or.inr (Or.inl ⟨by omega, by omega, zS, st.2.2.1, st.2.2.2.1⟩))))) | exact ⟨_, _, _, Or.inl ⟨by omega, zF, rfl, rfl⟩⟩ | exact ⟨_, _, _, Or.inr (Or.inr (Or.inl ⟨by omega, by omega, zC, rfl, rfl⟩))⟩ | exact ⟨_, _, _, Or.inr (Or.inr (Or.inr (Or.inl ⟨by omega, by omega, zW, rfl⟩)))⟩ | exact ⟨_, _, _, Or.inr (Or.inr (Or.inr (Or.inr (Or.inl ⟨by omega, by omega, zJ, fun q => absurd q (by omega), rfl⟩))))⟩ | exact ⟨_, _, _, Or.inr (Or.inr (Or.inr (Or.inr (Or.inr (Or.inl ⟨by omega, by omega, zS, rfl, rfl⟩)))))⟩ | exact ⟨0, 0, 0, Or.inr (Or.inl ⟨by omega, by omega, by omega⟩)⟩ | exact ⟨0, 0, 0, Or.inr (Or.inr (Or.inr (Or.inr (Or.inr (Or.inr ⟨by omega, by omega, by omega, by omega, by omega, by omega⟩)))))⟩ | (exfalso; omega) | omega) (by first | exact Lo_h894 | exact ⟨st.1, st.2.1, st.2.2.2.2⟩ | exact Or.inl ⟨by omega, zF, st.2.2.1, st.2.2.2.1⟩ | exact Or.inr (Or.inr (Or.inl ⟨by omega, by omega, zC, st.2.2.1, st.2.2.2.1⟩)) | exact Or.inr (Or.inr (Or.inr (Or.inl ⟨by omega, by omega, zW, st.2.2.2.1⟩))) | exact Or.inr (Or.inr (Or.inr (Or.inr (Or.inl ⟨by omega, by omega, zJ, fun _ => st.2.2.1, st.2.2.2.1⟩)))) | exact Or.inr (Or.inr (Or.inr (Or.inr (Or.inr (Or.inl ⟨by omega, by omega, zS, st.2.2.1, st.2.2.2.1⟩))))) | exact ⟨_, _, _, Or.inl ⟨by omega, zF, rfl, rfl⟩⟩ | exact ⟨_, _, _, Or.inr (Or.inr (Or.inl ⟨by omega, by omega, zC, rfl, rfl⟩))⟩ | exact ⟨_, _, _, Or.inr (Or.inr (Or.inr (Or.inl ⟨by omega, by omega, zW, rfl⟩)))⟩ | exact ⟨_, _, _, Or.inr (Or.inr (Or.inr (Or.inr (Or.inl ⟨by omega, by omega, zJ, fun q => absurd q (by omega), rfl⟩))))⟩ | exact ⟨_, _, _, Or.inr (Or.inr (Or.inr (Or.inr (Or.inr (Or.inl ⟨by omega, by omega, zS, rfl, rfl⟩)))))⟩ | exact ⟨0, 0, 0, Or.inr (Or.inl ⟨by omega, by omega, by omega⟩)⟩ | exact ⟨0, 0, 0, Or.inr (Or.inr (Or.inr (Or.inr (Or.inr (Or.inr ⟨by omega, by omega, by omega, by omega, by omega, by omega⟩)))))⟩ | (exfalso; omega) | omega) Ln_h894 Sp_h894 Al_h894t898 Cu_h894t899)
            ·
              have gh900 : my_fr [(4, 4), (4, 5), (4, 6), (4, 7), (4, 8), (4, 9), (5, 5), (5, 6), (5, 7), (5, 8), (5, 9), (32, -1), (33, -1), (34, -1), (35, -1), (36, -1), (37, -1), (38, -1), (39, -1)] h h900 := my_fr.tr gh883 (frh900.mo rfl)
              have Ln_h900 : Ln h900 := Ln_ag (my_ag.fr frh900 rfl) Ln_h883
              have Sp_h900 : Sp h900 wv := Sp_ag (my_ag.fr frh900 rfl) hwv Ln_h883 Sp_h883
              have Lo_h900 : Lo h h900 := Lo_ag (my_ag.fr frh900 rfl) Ln_h883 Lo_h883
              show wp l rho (d + 7) 49 99 [(2, 82), (0, 1), (0, 0), (0, 0), (0, 0), (0, 1)] [] h900 Q
              have tE908 : cs h883 = cs h := cs_eq (fun j => my_fr.at gh883 is_92 rfl) (my_fr.at gh883 is_82 rfl)
              rw [tE908] at xp902
              have ps909 : h883 82 7 = (sN (cs h) (h 82 7)) := xc891
              rw [ps909] at xp902
              have q2 : h883 82 2 = h 82 2 := my_fr.at frh883 is_82 rfl
              have q11 : h883 (h 82 2) 1 = h (h 82 2) 1 := my_fr.at frh883 n_Ln.2.2.2.1 rfl
              have q13 : h883 (h 82 2) 3 = h (h 82 2) 3 := my_fr.at frh883 n_Ln.2.2.2.1 rfl
              have q14 : h883 (h 82 2) 4 = h (h 82 2) 4 := my_fr.at frh883 n_Ln.2.2.2.1 rfl
              have q19 : h883 (h 82 2) 9 = h (h 82 2) 9 := my_fr.at frh883 n_Ln.2.2.2.1 rfl
              have qc : h883 2 = h 2 := funext (fun j => my_fr.at frh883 is_2 rfl)
              have zF := xp902
              simp only [q2, q11, q13, q14, q19, qc] at zF
              have st : h900 82 2 = h 82 2 ∧ h900 (h 82 2) 3 = h (h 82 2) 3 ∧ h900 (h 82 2) 4 = h (h 82 2) 4 ∧ h900 (h 82 2) 9 = h (h 82 2) 9 ∧ h900 (h 82 2) 1 = h (h 82 2) 1 := ⟨(my_fr.at frh900 is_82 rfl).trans q2, (my_fr.at frh900 n_Ln.2.2.2.1 rfl).trans q13, (my_fr.at frh900 n_Ln.2.2.2.1 rfl).trans q14, (my_fr.at frh900 n_Ln.2.2.2.1 rfl).trans q19, (my_fr.at frh900 n_Ln.2.2.2.1 rfl).trans q11⟩
              refine w_goto (t := 140) gz_49_99 rfl ?_
              have psR : h900 82 7 = h900 82 7 := (rfl : h900 82 7 = h900 82 7)
              have npsR : cs h900 = cs h := cs_eq (fun j => my_fr.at gh900 is_92 rfl) (my_fr.at gh900 is_82 rfl)
              have c910 := w901
              exact w_vret gz_49_140 gm_49 (k1 h900 (gh900) (by omega) (by first | exact Lo_h900 | exact ⟨st.1, st.2.1, st.2.2.2.2⟩ | exact Or.inl ⟨by omega, zF, st.2.2.1, st.2.2.2.1⟩ | exact Or.inr (Or.inr (Or.inl ⟨by omega, by omega, zC, st.2.2.1, st.2.2.2.1⟩)) | exact Or.inr (Or.inr (Or.inr (Or.inl ⟨by omega, by omega, zW, st.2.2.2.1⟩))) | exact Or.inr (Or.inr (Or.inr (Or.inr (Or.inl ⟨by omega, by omega, zJ, fun _ => st.2.2.1, st.2.2.2.1⟩)))) | exact Or.inr (Or.inr (Or.inr (Or.inr (Or.inr (Or.inl ⟨by omega, by omega, zS, st.2.2.1, st.2.2.2.1⟩))))) | exact ⟨_, _, _, Or.inl ⟨by omega, zF, rfl, rfl⟩⟩ | exact ⟨_, _, _, Or.inr (Or.inr (Or.inl ⟨by omega, by omega, zC, rfl, rfl⟩))⟩ | exact ⟨_, _, _, Or.inr (Or.inr (Or.inr (Or.inl ⟨by omega, by omega, zW, rfl⟩)))⟩ | exact ⟨_, _, _, Or.inr (Or.inr (Or.inr (Or.inr (Or.inl ⟨by omega, by omega, zJ, fun q => absurd q (by omega), rfl⟩))))⟩ | exact ⟨_, _, _, Or.inr (Or.inr (Or.inr (Or.inr (Or.inr (Or.inl ⟨by omega, by omega, zS, rfl, rfl⟩)))))⟩ | exact ⟨0, 0, 0, Or.inr (Or.inl ⟨by omega, by omega, by omega⟩)⟩ | exact ⟨0, 0, 0, Or.inr (Or.inr (Or.inr (Or.inr (Or.inr (Or.inr ⟨by omega, by omega, by omega, by omega, by omega, by omega⟩)))))⟩ | (exfalso; omega) | omega) (by first | exact Lo_h900 | exact ⟨st.1, st.2.1, st.2.2.2.2⟩ | exact Or.inl ⟨by omega, zF, st.2.2.1, st.2.2.2.1⟩ | exact Or.inr (Or.inr (Or.inl ⟨by omega, by omega, zC, st.2.2.1, st.2.2.2.1⟩)) | exact Or.inr (Or.inr (Or.inr (Or.inl ⟨by omega, by omega, zW, st.2.2.2.1⟩))) | exact Or.inr (Or.inr (Or.inr (Or.inr (Or.inl ⟨by omega, by omega, zJ, fun _ => st.2.2.1, st.2.2.2.1⟩)))) | exact Or.inr (Or.inr (Or.inr (Or.inr (Or.inr (Or.inl ⟨by omega, by omega, zS, st.2.2.1, st.2.2.2.1⟩))))) | exact ⟨_, _, _, Or.inl ⟨by omega, zF, rfl, rfl⟩⟩ | exact ⟨_, _, _, Or.inr (Or.inr (Or.inl ⟨by omega, by omega, zC, rfl, rfl⟩))⟩ | exact ⟨_, _, _, Or.inr (Or.inr (Or.inr (Or.inl ⟨by omega, by omega, zW, rfl⟩)))⟩ | exact ⟨_, _, _, Or.inr (Or.inr (Or.inr (Or.inr (Or.inl ⟨by omega, by omega, zJ, fun q => absurd q (by omega), rfl⟩))))⟩ | exact ⟨_, _, _, Or.inr (Or.inr (Or.inr (Or.inr (Or.inr (Or.inl ⟨by omega, by omega, zS, rfl, rfl⟩)))))⟩ | exact ⟨0, 0, 0, Or.inr (Or.inl ⟨by omega, by omega, by omega⟩)⟩ | exact ⟨0, 0, 0, Or.inr (Or.inr (Or.inr (Or.inr (Or.inr (Or.inr ⟨by omega, by omega, by omega, by omega, by omega, by omega⟩)))))⟩ | (exfalso; omega) | omega) (by first | exact Lo_h900 | exact ⟨st.1, st.2.1, st.2.2.2.2⟩ | exact Or.inl ⟨by omega, zF, st.2.2.1, st.2.2.2.1⟩ | exact Or.inr (Or.inr (Or.inl ⟨by omega, by omega, zC, st.2.2.1, st.2.2.2.1⟩)) | exact Or.inr (Or.inr (Or.inr (Or.inl ⟨by omega, by omega, zW, st.2.2.2.1⟩))) | exact Or.inr (Or.inr (Or.inr (Or.inr (Or.inl ⟨by omega, by omega, zJ, fun _ => st.2.2.1, st.2.2.2.1⟩)))) | exact Or.inr (Or.inr (Or.inr (Or.inr (Or.inr (Or.inl ⟨by omega, by omega, zS, st.2.2.1, st.2.2.2.1⟩))))) | exact ⟨_, _, _, Or.inl ⟨by omega, zF, rfl, rfl⟩⟩ | exact ⟨_, _, _, Or.inr (Or.inr (Or.inl ⟨by omega, by omega, zC, rfl, rfl⟩))⟩ | exact ⟨_, _, _, Or.inr (Or.inr (Or.inr (Or.inl ⟨by omega, by omega, zW, rfl⟩)))⟩ | exact ⟨_, _, _, Or.inr (Or.inr (Or.inr (Or.inr (Or.inl ⟨by omega, by omega, zJ, fun q => absurd q (by omega), rfl⟩))))⟩ | exact ⟨_, _, _, Or.inr (Or.inr (Or.inr (Or.inr (Or.inr (Or.inl ⟨by omega, by omega, zS, rfl, rfl⟩)))))⟩ | exact ⟨0, 0, 0, Or.inr (Or.inl ⟨by omega, by omega, by omega⟩)⟩ | exact ⟨0, 0, 0, Or.inr (Or.inr (Or.inr (Or.inr (Or.inr (Or.inr ⟨by omega, by omega, by omega, by omega, by omega, by omega⟩)))))⟩ | (exfalso; omega) | omega) Ln_h900 Sp_h900 Al_h900t903 Cu_h900t904)
        ·
          show wp l rho (d + 7) 49 27 [(2, 82), (0, 1), (0, 0), (0, 0), (9, 0), (9, 0)] [(0, 1)] h Q
          rw [show wc ((7 : Nat) : Int) = 527412 from by decide] at xp845
          refine w_istore (ls' := [(2, 82), (0, 1), (0, 0), (0, 0), (0, 1), (9, 0)]) gz_49_27 gm_49 rfl rfl rfl ?_
          refine w_aload_n gz_49_29 rfl ?_
          refine w_ldcS gz_49_30 (by decide) ?_
          refine w_inv (k := 1) (as := [(3, ((8 : Nat) : Int))]) (r := []) (x := 82) (ls0 := [(2, 82), (3, ((8 : Nat) : Int)), (9, 0)]) gz_49_32 gm_41 rfl is_82 rd_5 rfl rfl rfl rfl rfl (c_Reader_isWord9_f0 (d := (d + 2)) (x1 := ((8 : Nat) : Int)) (by decide) (cf.trans (by omega)) n_Cu (fun w911 xp912 => ?_) (fun w913 w914 xp915 => ?_))
          ·
            show wp l rho (d + 7) 49 35 [(2, 82), (0, 1), (0, 0), (0, 0), (0, 1), (9, 0)] [(0, 0)] h Q
            rw [show wc ((8 : Nat) : Int) = 26801 from by decide] at xp912
            refine w_istore (ls' := [(2, 82), (0, 1), (0, 0), (0, 0), (0, 1), (0, 0)]) gz_49_35 gm_49 rfl rfl rfl ?_
            refine w_iload_n gz_49_37 rfl ?_
            refine w_ifne (t := 65) gz_49_38 rfl (fun u916 => ?_) (fun u916 => by exfalso; omega)
            refine w_iload_n gz_49_65 rfl ?_
            refine w_ifne (t := 87) gz_49_66 rfl (fun u917 => ?_) (fun u917 => by exfalso; omega)
            refine w_aload_n gz_49_87 rfl ?_
            refine w_inv (k := 2) (as := []) (r := []) (x := 82) (ls0 := [(2, 82), (9, 0), (9, 0)]) gz_49_88 gm_37 rfl is_82 rd_5 rfl rfl rfl rfl rfl (c_Reader_nextToken9_f0 (d := (d + 5))  (cf.trans (by omega)) n_Al (fun h918 frh918 w919 w920 w921 xp922 xp923 Al_h918t924 Cu_h918t925 => ?_))
            have gh918 : my_fr [(4, 4), (4, 5), (4, 6), (4, 7), (4, 8), (4, 9), (5, 5), (5, 6), (5, 7), (5, 8), (5, 9), (32, -1), (33, -1), (34, -1), (35, -1), (36, -1), (37, -1), (38, -1), (39, -1)] h h918 := my_fr.tr my_fr.rf (frh918.mo rfl)
            have Ln_h918 : Ln h918 := Ln_ag (my_ag.fr frh918 rfl) n_Ln
            have Sp_h918 : Sp h918 wv := Sp_ag (my_ag.fr frh918 rfl) hwv n_Ln n_Sp
            have Lo_h918 : Lo h h918 := Lo_ag (my_ag.fr frh918 rfl) n_Ln (Lo_rf)
            show wp l rho (d + 7) 49 91 [(2, 82), (0, 1), (0, 0), (0, 0), (0, 1), (0, 0)] [] h918 Q
            have xc926 := xp922 n_Cu
            have ck927 := Cu_s Cu_h918t925
            rw [show cs h918 = cs h from cs_eq (fun j => my_fr.at gh918 is_92 rfl) (my_fr.at gh918 is_82 rfl)] at ck927
            rw [show h918 82 7 = (sN (cs h) (h 82 7)) from xc926] at ck927
            refine w_iload_n gz_49_91 rfl ?_
            refine w_ifeq (t := 102) gz_49_92 rfl (fun u928 => by exfalso; omega) (fun u928 => ?_)
            refine w_aload_n gz_49_95 rfl ?_
            refine w_inv (k := 2) (as := []) (r := []) (x := 82) (ls0 := [(2, 82), (9, 0), (9, 0)]) gz_49_96 gm_50 rfl is_82 rd_5 rfl rfl rfl rfl rfl (c_Reader_readFill9_f0 (d := (d + 3))  (((my_fr.at frh918 is_82 rfl).trans cf).trans (by omega)) Al_h918t924 Cu_h918t925 (fun h929 frh929 w930 w931 xp932 Al_h929t933 Cu_h929t934 => ?_) (fun h935 frh935 w936 xp937 Al_h935t938 Cu_h935t939 => ?_))
            ·
              have gh929 : my_fr [(4, 4), (4, 5), (4, 6), (4, 7), (4, 8), (4, 9), (5, 5), (5, 6), (5, 7), (5, 8), (5, 9), (32, -1), (33, -1), (34, -1), (35, -1), (36, -1), (37, -1), (38, -1), (39, -1)] h h929 := my_fr.tr gh918 (frh929.mo rfl)
              have Ln_h929 : Ln h929 := Ln_ag (my_ag.fr frh929 rfl) Ln_h918
              have Sp_h929 : Sp h929 wv := Sp_ag (my_ag.fr frh929 rfl) hwv Ln_h918 Sp_h918
              have Lo_h929 : Lo h h929 := Lo_ag (my_ag.fr frh929 rfl) Ln_h918 Lo_h918
              show wp l rho (d + 7) 49 99 [(2, 82), (0, 1), (0, 0), (0, 0), (0, 1), (0, 0)] [] h929 Q
              have tE940 : cs h918 = cs h := cs_eq (fun j => my_fr.at gh918 is_92 rfl) (my_fr.at gh918 is_82 rfl)
              rw [tE940] at xp932
              have ps941 : h918 82 7 = (sN (cs h) (h 82 7)) := xc926
              rw [ps941] at xp932
              have q2 : h918 82 2 = h 82 2 := my_fr.at frh918 is_82 rfl
              have q11 : h918 (h 82 2) 1 = h (h 82 2) 1 := my_fr.at frh918 n_Ln.2.2.2.1 rfl
              have q13 : h918 (h 82 2) 3 = h (h 82 2) 3 := my_fr.at frh918 n_Ln.2.2.2.1 rfl
              have q14 : h918 (h 82 2) 4 = h (h 82 2) 4 := my_fr.at frh918 n_Ln.2.2.2.1 rfl
              have q19 : h918 (h 82 2) 9 = h (h 82 2) 9 := my_fr.at frh918 n_Ln.2.2.2.1 rfl
              have qc : h918 2 = h 2 := funext (fun j => my_fr.at frh918 is_2 rfl)
              have zF := xp932
              simp only [q2, q11, q13, q14, q19, qc] at zF
              have st : h929 82 2 = h 82 2 ∧ h929 (h 82 2) 3 = h (h 82 2) 3 ∧ h929 (h 82 2) 4 = h (h 82 2) 4 ∧ h929 (h 82 2) 9 = h (h 82 2) 9 ∧ h929 (h 82 2) 1 = h (h 82 2) 1 := ⟨(my_fr.at frh929 is_82 rfl).trans q2, (my_fr.at frh929 n_Ln.2.2.2.1 rfl).trans q13, (my_fr.at frh929 n_Ln.2.2.2.1 rfl).trans q14, (my_fr.at frh929 n_Ln.2.2.2.1 rfl).trans q19, (my_fr.at frh929 n_Ln.2.2.2.1 rfl).trans q11⟩
              refine w_goto (t := 140) gz_49_99 rfl ?_
              have psR : h929 82 7 = h929 82 7 := (rfl : h929 82 7 = h929 82 7)
              have npsR : cs h929 = cs h := cs_eq (fun j => my_fr.at gh929 is_92 rfl) (my_fr.at gh929 is_82 rfl)
              have c942 := (rfl : h929 82 9 = h929 82 9)
              exact w_vret gz_49_140 gm_49 (k0 h929 (gh929) (by omega) (by omega) (by first | exact Lo_h929 | exact ⟨st.1, st.2.1, st.2.2.2.2⟩ | exact Or.inl ⟨by omega, zF, st.2.2.1, st.2.2.2.1⟩ | exact Or.inr (Or.inr (Or.inl ⟨by omega, by omega, zC, st.2.2.1, st.2.2.2.1⟩)) | exact Or.inr (Or.inr (Or.inr (Or.inl ⟨by omega, by omega, zW, st.2.2.2.1⟩))) | exact Or.inr (Or.inr (Or.inr (Or.inr (Or.inl ⟨by omega, by omega, zJ, fun _ => st.2.2.1, st.2.2.2.1⟩)))) | exact Or.inr (Or.inr (Or.inr (Or.inr (Or.inr (Or.inl ⟨by omega, by omega, zS, st.2.2.1, st.2.2.2.1⟩))))) | exact ⟨_, _, _, Or.inl ⟨by omega, zF, rfl, rfl⟩⟩ | exact ⟨_, _, _, Or.inr (Or.inr (Or.inl ⟨by omega, by omega, zC, rfl, rfl⟩))⟩ | exact ⟨_, _, _, Or.inr (Or.inr (Or.inr (Or.inl ⟨by omega, by omega, zW, rfl⟩)))⟩ | exact ⟨_, _, _, Or.inr (Or.inr (Or.inr (Or.inr (Or.inl ⟨by omega, by omega, zJ, fun q => absurd q (by omega), rfl⟩))))⟩ | exact ⟨_, _, _, Or.inr (Or.inr (Or.inr (Or.inr (Or.inr (Or.inl ⟨by omega, by omega, zS, rfl, rfl⟩)))))⟩ | exact ⟨0, 0, 0, Or.inr (Or.inl ⟨by omega, by omega, by omega⟩)⟩ | exact ⟨0, 0, 0, Or.inr (Or.inr (Or.inr (Or.inr (Or.inr (Or.inr ⟨by omega, by omega, by omega, by omega, by omega, by omega⟩)))))⟩ | (exfalso; omega) | omega) (by first | exact Lo_h929 | exact ⟨st.1, st.2.1, st.2.2.2.2⟩ | exact Or.inl ⟨by omega, zF, st.2.2.1, st.2.2.2.1⟩ | exact Or.inr (Or.inr (Or.inl ⟨by omega, by omega, zC, st.2.2.1, st.2.2.2.1⟩)) | exact Or.inr (Or.inr (Or.inr (Or.inl ⟨by omega, by omega, zW, st.2.2.2.1⟩))) | exact Or.inr (Or.inr (Or.inr (Or.inr (Or.inl ⟨by omega, by omega, zJ, fun _ => st.2.2.1, st.2.2.2.1⟩)))) | exact Or.inr (Or.inr (Or.inr (Or.inr (Or.inr (Or.inl ⟨by omega, by omega, zS, st.2.2.1, st.2.2.2.1⟩))))) | exact ⟨_, _, _, Or.inl ⟨by omega, zF, rfl, rfl⟩⟩ | exact ⟨_, _, _, Or.inr (Or.inr (Or.inl ⟨by omega, by omega, zC, rfl, rfl⟩))⟩ | exact ⟨_, _, _, Or.inr (Or.inr (Or.inr (Or.inl ⟨by omega, by omega, zW, rfl⟩)))⟩ | exact ⟨_, _, _, Or.inr (Or.inr (Or.inr (Or.inr (Or.inl ⟨by omega, by omega, zJ, fun q => absurd q (by omega), rfl⟩))))⟩ | exact ⟨_, _, _, Or.inr (Or.inr (Or.inr (Or.inr (Or.inr (Or.inl ⟨by omega, by omega, zS, rfl, rfl⟩)))))⟩ | exact ⟨0, 0, 0, Or.inr (Or.inl ⟨by omega, by omega, by omega⟩)⟩ | exact ⟨0, 0, 0, Or.inr (Or.inr (Or.inr (Or.inr (Or.inr (Or.inr ⟨by omega, by omega, by omega, by omega, by omega, by omega⟩)))))⟩ | (exfalso; omega) | omega) Ln_h929 Sp_h929 Al_h929t933 Cu_h929t934)
            ·
              have gh935 : my_fr [(4, 4), (4, 5), (4, 6), (4, 7), (4, 8), (4, 9), (5, 5), (5, 6), (5, 7), (5, 8), (5, 9), (32, -1), (33, -1), (34, -1), (35, -1), (36, -1), (37, -1), (38, -1), (39, -1)] h h935 := my_fr.tr gh918 (frh935.mo rfl)
              have Ln_h935 : Ln h935 := Ln_ag (my_ag.fr frh935 rfl) Ln_h918
              have Sp_h935 : Sp h935 wv := Sp_ag (my_ag.fr frh935 rfl) hwv Ln_h918 Sp_h918
              have Lo_h935 : Lo h h935 := Lo_ag (my_ag.fr frh935 rfl) Ln_h918 Lo_h918
              show wp l rho (d + 7) 49 99 [(2, 82), (0, 1), (0, 0), (0, 0), (0, 1), (0, 0)] [] h935 Q
              have tE943 : cs h918 = cs h := cs_eq (fun j => my_fr.at gh918 is_92 rfl) (my_fr.at gh918 is_82 rfl)
              rw [tE943] at xp937
              have ps944 : h918 82 7 = (sN (cs h) (h 82 7)) := xc926
              rw [ps944] at xp937
              have q2 : h918 82 2 = h 82 2 := my_fr.at frh918 is_82 rfl
              have q11 : h918 (h 82 2) 1 = h (h 82 2) 1 := my_fr.at frh918 n_Ln.2.2.2.1 rfl
              have q13 : h918 (h 82 2) 3 = h (h 82 2) 3 := my_fr.at frh918 n_Ln.2.2.2.1 rfl
              have q14 : h918 (h 82 2) 4 = h (h 82 2) 4 := my_fr.at frh918 n_Ln.2.2.2.1 rfl
              have q19 : h918 (h 82 2) 9 = h (h 82 2) 9 := my_fr.at frh918 n_Ln.2.2.2.1 rfl
              have qc : h918 2 = h 2 := funext (fun j => my_fr.at frh918 is_2 rfl)
              have zF := xp937
              simp only [q2, q11, q13, q14, q19, qc] at zF
              have st : h935 82 2 = h 82 2 ∧ h935 (h 82 2) 3 = h (h 82 2) 3 ∧ h935 (h 82 2) 4 = h (h 82 2) 4 ∧ h935 (h 82 2) 9 = h (h 82 2) 9 ∧ h935 (h 82 2) 1 = h (h 82 2) 1 := ⟨(my_fr.at frh935 is_82 rfl).trans q2, (my_fr.at frh935 n_Ln.2.2.2.1 rfl).trans q13, (my_fr.at frh935 n_Ln.2.2.2.1 rfl).trans q14, (my_fr.at frh935 n_Ln.2.2.2.1 rfl).trans q19, (my_fr.at frh935 n_Ln.2.2.2.1 rfl).trans q11⟩
              refine w_goto (t := 140) gz_49_99 rfl ?_
              have psR : h935 82 7 = h935 82 7 := (rfl : h935 82 7 = h935 82 7)
              have npsR : cs h935 = cs h := cs_eq (fun j => my_fr.at gh935 is_92 rfl) (my_fr.at gh935 is_82 rfl)
              have c945 := w936
              exact w_vret gz_49_140 gm_49 (k1 h935 (gh935) (by omega) (by first | exact Lo_h935 | exact ⟨st.1, st.2.1, st.2.2.2.2⟩ | exact Or.inl ⟨by omega, zF, st.2.2.1, st.2.2.2.1⟩ | exact Or.inr (Or.inr (Or.inl ⟨by omega, by omega, zC, st.2.2.1, st.2.2.2.1⟩)) | exact Or.inr (Or.inr (Or.inr (Or.inl ⟨by omega, by omega, zW, st.2.2.2.1⟩))) | exact Or.inr (Or.inr (Or.inr (Or.inr (Or.inl ⟨by omega, by omega, zJ, fun _ => st.2.2.1, st.2.2.2.1⟩)))) | exact Or.inr (Or.inr (Or.inr (Or.inr (Or.inr (Or.inl ⟨by omega, by omega, zS, st.2.2.1, st.2.2.2.1⟩))))) | exact ⟨_, _, _, Or.inl ⟨by omega, zF, rfl, rfl⟩⟩ | exact ⟨_, _, _, Or.inr (Or.inr (Or.inl ⟨by omega, by omega, zC, rfl, rfl⟩))⟩ | exact ⟨_, _, _, Or.inr (Or.inr (Or.inr (Or.inl ⟨by omega, by omega, zW, rfl⟩)))⟩ | exact ⟨_, _, _, Or.inr (Or.inr (Or.inr (Or.inr (Or.inl ⟨by omega, by omega, zJ, fun q => absurd q (by omega), rfl⟩))))⟩ | exact ⟨_, _, _, Or.inr (Or.inr (Or.inr (Or.inr (Or.inr (Or.inl ⟨by omega, by omega, zS, rfl, rfl⟩)))))⟩ | exact ⟨0, 0, 0, Or.inr (Or.inl ⟨by omega, by omega, by omega⟩)⟩ | exact ⟨0, 0, 0, Or.inr (Or.inr (Or.inr (Or.inr (Or.inr (Or.inr ⟨by omega, by omega, by omega, by omega, by omega, by omega⟩)))))⟩ | (exfalso; omega) | omega) (by first | exact Lo_h935 | exact ⟨st.1, st.2.1, st.2.2.2.2⟩ | exact Or.inl ⟨by omega, zF, st.2.2.1, st.2.2.2.1⟩ | exact Or.inr (Or.inr (Or.inl ⟨by omega, by omega, zC, st.2.2.1, st.2.2.2.1⟩)) | exact Or.inr (Or.inr (Or.inr (Or.inl ⟨by omega, by omega, zW, st.2.2.2.1⟩))) | exact Or.inr (Or.inr (Or.inr (Or.inr (Or.inl ⟨by omega, by omega, zJ, fun _ => st.2.2.1, st.2.2.2.1⟩)))) | exact Or.inr (Or.inr (Or.inr (Or.inr (Or.inr (Or.inl ⟨by omega, by omega, zS, st.2.2.1, st.2.2.2.1⟩))))) | exact ⟨_, _, _, Or.inl ⟨by omega, zF, rfl, rfl⟩⟩ | exact ⟨_, _, _, Or.inr (Or.inr (Or.inl ⟨by omega, by omega, zC, rfl, rfl⟩))⟩ | exact ⟨_, _, _, Or.inr (Or.inr (Or.inr (Or.inl ⟨by omega, by omega, zW, rfl⟩)))⟩ | exact ⟨_, _, _, Or.inr (Or.inr (Or.inr (Or.inr (Or.inl ⟨by omega, by omega, zJ, fun q => absurd q (by omega), rfl⟩))))⟩ | exact ⟨_, _, _, Or.inr (Or.inr (Or.inr (Or.inr (Or.inr (Or.inl ⟨by omega, by omega, zS, rfl, rfl⟩)))))⟩ | exact ⟨0, 0, 0, Or.inr (Or.inl ⟨by omega, by omega, by omega⟩)⟩ | exact ⟨0, 0, 0, Or.inr (Or.inr (Or.inr (Or.inr (Or.inr (Or.inr ⟨by omega, by omega, by omega, by omega, by omega, by omega⟩)))))⟩ | (exfalso; omega) | omega) (by first | exact Lo_h935 | exact ⟨st.1, st.2.1, st.2.2.2.2⟩ | exact Or.inl ⟨by omega, zF, st.2.2.1, st.2.2.2.1⟩ | exact Or.inr (Or.inr (Or.inl ⟨by omega, by omega, zC, st.2.2.1, st.2.2.2.1⟩)) | exact Or.inr (Or.inr (Or.inr (Or.inl ⟨by omega, by omega, zW, st.2.2.2.1⟩))) | exact Or.inr (Or.inr (Or.inr (Or.inr (Or.inl ⟨by omega, by omega, zJ, fun _ => st.2.2.1, st.2.2.2.1⟩)))) | exact Or.inr (Or.inr (Or.inr (Or.inr (Or.inr (Or.inl ⟨by omega, by omega, zS, st.2.2.1, st.2.2.2.1⟩))))) | exact ⟨_, _, _, Or.inl ⟨by omega, zF, rfl, rfl⟩⟩ | exact ⟨_, _, _, Or.inr (Or.inr (Or.inl ⟨by omega, by omega, zC, rfl, rfl⟩))⟩ | exact ⟨_, _, _, Or.inr (Or.inr (Or.inr (Or.inl ⟨by omega, by omega, zW, rfl⟩)))⟩ | exact ⟨_, _, _, Or.inr (Or.inr (Or.inr (Or.inr (Or.inl ⟨by omega, by omega, zJ, fun q => absurd q (by omega), rfl⟩))))⟩ | exact ⟨_, _, _, Or.inr (Or.inr (Or.inr (Or.inr (Or.inr (Or.inl ⟨by omega, by omega, zS, rfl, rfl⟩)))))⟩ | exact ⟨0, 0, 0, Or.inr (Or.inl ⟨by omega, by omega, by omega⟩)⟩ | exact ⟨0, 0, 0, Or.inr (Or.inr (Or.inr (Or.inr (Or.inr (Or.inr ⟨by omega, by omega, by omega, by omega, by omega, by omega⟩)))))⟩ | (exfalso; omega) | omega) Ln_h935 Sp_h935 Al_h935t938 Cu_h935t939)
          ·
            show wp l rho (d + 7) 49 35 [(2, 82), (0, 1), (0, 0), (0, 0), (0, 1), (9, 0)] [(0, 1)] h Q
            rw [show wc ((8 : Nat) : Int) = 26801 from by decide] at xp915
            refine w_istore (ls' := [(2, 82), (0, 1), (0, 0), (0, 0), (0, 1), (0, 1)]) gz_49_35 gm_49 rfl rfl rfl ?_
            refine w_iload_n gz_49_37 rfl ?_
            refine w_ifne (t := 65) gz_49_38 rfl (fun u946 => ?_) (fun u946 => by exfalso; omega)
            refine w_iload_n gz_49_65 rfl ?_
            refine w_ifne (t := 87) gz_49_66 rfl (fun u947 => ?_) (fun u947 => by exfalso; omega)
            refine w_aload_n gz_49_87 rfl ?_
            refine w_inv (k := 2) (as := []) (r := []) (x := 82) (ls0 := [(2, 82), (9, 0), (9, 0)]) gz_49_88 gm_37 rfl is_82 rd_5 rfl rfl rfl rfl rfl (c_Reader_nextToken9_f0 (d := (d + 5))  (cf.trans (by omega)) n_Al (fun h948 frh948 w949 w950 w951 xp952 xp953 Al_h948t954 Cu_h948t955 => ?_))
            have gh948 : my_fr [(4, 4), (4, 5), (4, 6), (4, 7), (4, 8), (4, 9), (5, 5), (5, 6), (5, 7), (5, 8), (5, 9), (32, -1), (33, -1), (34, -1), (35, -1), (36, -1), (37, -1), (38, -1), (39, -1)] h h948 := my_fr.tr my_fr.rf (frh948.mo rfl)
            have Ln_h948 : Ln h948 := Ln_ag (my_ag.fr frh948 rfl) n_Ln
            have Sp_h948 : Sp h948 wv := Sp_ag (my_ag.fr frh948 rfl) hwv n_Ln n_Sp
            have Lo_h948 : Lo h h948 := Lo_ag (my_ag.fr frh948 rfl) n_Ln (Lo_rf)
            show wp l rho (d + 7) 49 91 [(2, 82), (0, 1), (0, 0), (0, 0), (0, 1), (0, 1)] [] h948 Q
            have xc956 := xp952 n_Cu
            have ck957 := Cu_s Cu_h948t955
            rw [show cs h948 = cs h from cs_eq (fun j => my_fr.at gh948 is_92 rfl) (my_fr.at gh948 is_82 rfl)] at ck957
            rw [show h948 82 7 = (sN (cs h) (h 82 7)) from xc956] at ck957
            refine w_iload_n gz_49_91 rfl ?_
            refine w_ifeq (t := 102) gz_49_92 rfl (fun u958 => by exfalso; omega) (fun u958 => ?_)
            refine w_aload_n gz_49_95 rfl ?_
            refine w_inv (k := 2) (as := []) (r := []) (x := 82) (ls0 := [(2, 82), (9, 0), (9, 0)]) gz_49_96 gm_50 rfl is_82 rd_5 rfl rfl rfl rfl rfl (c_Reader_readFill9_f0 (d := (d + 3))  (((my_fr.at frh948 is_82 rfl).trans cf).trans (by omega)) Al_h948t954 Cu_h948t955 (fun h959 frh959 w960 w961 xp962 Al_h959t963 Cu_h959t964 => ?_) (fun h965 frh965 w966 xp967 Al_h965t968 Cu_h965t969 => ?_))
            ·
              have gh959 : my_fr [(4, 4), (4, 5), (4, 6), (4, 7), (4, 8), (4, 9), (5, 5), (5, 6), (5, 7), (5, 8), (5, 9), (32, -1), (33, -1), (34, -1), (35, -1), (36, -1), (37, -1), (38, -1), (39, -1)] h h959 := my_fr.tr gh948 (frh959.mo rfl)
              have Ln_h959 : Ln h959 := Ln_ag (my_ag.fr frh959 rfl) Ln_h948
              have Sp_h959 : Sp h959 wv := Sp_ag (my_ag.fr frh959 rfl) hwv Ln_h948 Sp_h948
              have Lo_h959 : Lo h h959 := Lo_ag (my_ag.fr frh959 rfl) Ln_h948 Lo_h948
              show wp l rho (d + 7) 49 99 [(2, 82), (0, 1), (0, 0), (0, 0), (0, 1), (0, 1)] [] h959 Q
              have tE970 : cs h948 = cs h := cs_eq (fun j => my_fr.at gh948 is_92 rfl) (my_fr.at gh948 is_82 rfl)
              rw [tE970] at xp962
              have ps971 : h948 82 7 = (sN (cs h) (h 82 7)) := xc956
              rw [ps971] at xp962
              have q2 : h948 82 2 = h 82 2 := my_fr.at frh948 is_82 rfl
              have q11 : h948 (h 82 2) 1 = h (h 82 2) 1 := my_fr.at frh948 n_Ln.2.2.2.1 rfl
              have q13 : h948 (h 82 2) 3 = h (h 82 2) 3 := my_fr.at frh948 n_Ln.2.2.2.1 rfl
              have q14 : h948 (h 82 2) 4 = h (h 82 2) 4 := my_fr.at frh948 n_Ln.2.2.2.1 rfl
              have q19 : h948 (h 82 2) 9 = h (h 82 2) 9 := my_fr.at frh948 n_Ln.2.2.2.1 rfl
              have qc : h948 2 = h 2 := funext (fun j => my_fr.at frh948 is_2 rfl)
              have zF := xp962
              simp only [q2, q11, q13, q14, q19, qc] at zF
              have st : h959 82 2 = h 82 2 ∧ h959 (h 82 2) 3 = h (h 82 2) 3 ∧ h959 (h 82 2) 4 = h (h 82 2) 4 ∧ h959 (h 82 2) 9 = h (h 82 2) 9 ∧ h959 (h 82 2) 1 = h (h 82 2) 1 := ⟨(my_fr.at frh959 is_82 rfl).trans q2, (my_fr.at frh959 n_Ln.2.2.2.1 rfl).trans q13, (my_fr.at frh959 n_Ln.2.2.2.1 rfl).trans q14, (my_fr.at frh959 n_Ln.2.2.2.1 rfl).trans q19, (my_fr.at frh959 n_Ln.2.2.2.1 rfl).trans q11⟩
              refine w_goto (t := 140) gz_49_99 rfl ?_
              have psR : h959 82 7 = h959 82 7 := (rfl : h959 82 7 = h959 82 7)
              have npsR : cs h959 = cs h := cs_eq (fun j => my_fr.at gh959 is_92 rfl) (my_fr.at gh959 is_82 rfl)
              have c972 := (rfl : h959 82 9 = h959 82 9)
              exact w_vret gz_49_140 gm_49 (k0 h959 (gh959) (by omega) (by omega) (by first | exact Lo_h959 | exact ⟨st.1, st.2.1, st.2.2.2.2⟩ | exact Or.inl ⟨by omega, zF, st.2.2.1, st.2.2.2.1⟩ | exact Or.inr (Or.inr (Or.inl ⟨by omega, by omega, zC, st.2.2.1, st.2.2.2.1⟩)) | exact Or.inr (Or.inr (Or.inr (Or.inl ⟨by omega, by omega, zW, st.2.2.2.1⟩))) | exact Or.inr (Or.inr (Or.inr (Or.inr (Or.inl ⟨by omega, by omega, zJ, fun _ => st.2.2.1, st.2.2.2.1⟩)))) | exact Or.inr (Or.inr (Or.inr (Or.inr (Or.inr (Or.inl ⟨by omega, by omega, zS, st.2.2.1, st.2.2.2.1⟩))))) | exact ⟨_, _, _, Or.inl ⟨by omega, zF, rfl, rfl⟩⟩ | exact ⟨_, _, _, Or.inr (Or.inr (Or.inl ⟨by omega, by omega, zC, rfl, rfl⟩))⟩ | exact ⟨_, _, _, Or.inr (Or.inr (Or.inr (Or.inl ⟨by omega, by omega, zW, rfl⟩)))⟩ | exact ⟨_, _, _, Or.inr (Or.inr (Or.inr (Or.inr (Or.inl ⟨by omega, by omega, zJ, fun q => absurd q (by omega), rfl⟩))))⟩ | exact ⟨_, _, _, Or.inr (Or.inr (Or.inr (Or.inr (Or.inr (Or.inl ⟨by omega, by omega, zS, rfl, rfl⟩)))))⟩ | exact ⟨0, 0, 0, Or.inr (Or.inl ⟨by omega, by omega, by omega⟩)⟩ | exact ⟨0, 0, 0, Or.inr (Or.inr (Or.inr (Or.inr (Or.inr (Or.inr ⟨by omega, by omega, by omega, by omega, by omega, by omega⟩)))))⟩ | (exfalso; omega) | omega) (by first | exact Lo_h959 | exact ⟨st.1, st.2.1, st.2.2.2.2⟩ | exact Or.inl ⟨by omega, zF, st.2.2.1, st.2.2.2.1⟩ | exact Or.inr (Or.inr (Or.inl ⟨by omega, by omega, zC, st.2.2.1, st.2.2.2.1⟩)) | exact Or.inr (Or.inr (Or.inr (Or.inl ⟨by omega, by omega, zW, st.2.2.2.1⟩))) | exact Or.inr (Or.inr (Or.inr (Or.inr (Or.inl ⟨by omega, by omega, zJ, fun _ => st.2.2.1, st.2.2.2.1⟩)))) | exact Or.inr (Or.inr (Or.inr (Or.inr (Or.inr (Or.inl ⟨by omega, by omega, zS, st.2.2.1, st.2.2.2.1⟩))))) | exact ⟨_, _, _, Or.inl ⟨by omega, zF, rfl, rfl⟩⟩ | exact ⟨_, _, _, Or.inr (Or.inr (Or.inl ⟨by omega, by omega, zC, rfl, rfl⟩))⟩ | exact ⟨_, _, _, Or.inr (Or.inr (Or.inr (Or.inl ⟨by omega, by omega, zW, rfl⟩)))⟩ | exact ⟨_, _, _, Or.inr (Or.inr (Or.inr (Or.inr (Or.inl ⟨by omega, by omega, zJ, fun q => absurd q (by omega), rfl⟩))))⟩ | exact ⟨_, _, _, Or.inr (Or.inr (Or.inr (Or.inr (Or.inr (Or.inl ⟨by omega, by omega, zS, rfl, rfl⟩)))))⟩ | exact ⟨0, 0, 0, Or.inr (Or.inl ⟨by omega, by omega, by omega⟩)⟩ | exact ⟨0, 0, 0, Or.inr (Or.inr (Or.inr (Or.inr (Or.inr (Or.inr ⟨by omega, by omega, by omega, by omega, by omega, by omega⟩)))))⟩ | (exfalso; omega) | omega) Ln_h959 Sp_h959 Al_h959t963 Cu_h959t964)
            ·
              have gh965 : my_fr [(4, 4), (4, 5), (4, 6), (4, 7), (4, 8), (4, 9), (5, 5), (5, 6), (5, 7), (5, 8), (5, 9), (32, -1), (33, -1), (34, -1), (35, -1), (36, -1), (37, -1), (38, -1), (39, -1)] h h965 := my_fr.tr gh948 (frh965.mo rfl)
              have Ln_h965 : Ln h965 := Ln_ag (my_ag.fr frh965 rfl) Ln_h948
              have Sp_h965 : Sp h965 wv := Sp_ag (my_ag.fr frh965 rfl) hwv Ln_h948 Sp_h948
              have Lo_h965 : Lo h h965 := Lo_ag (my_ag.fr frh965 rfl) Ln_h948 Lo_h948
              show wp l rho (d + 7) 49 99 [(2, 82), (0, 1), (0, 0), (0, 0), (0, 1), (0, 1)] [] h965 Q
              have tE973 : cs h948 = cs h := cs_eq (fun j => my_fr.at gh948 is_92 rfl) (my_fr.at gh948 is_82 rfl)
              rw [tE973] at xp967
              have ps974 : h948 82 7 = (sN (cs h) (h 82 7)) := xc956
              rw [ps974] at xp967
              have q2 : h948 82 2 = h 82 2 := my_fr.at frh948 is_82 rfl
              have q11 : h948 (h 82 2) 1 = h (h 82 2) 1 := my_fr.at frh948 n_Ln.2.2.2.1 rfl
              have q13 : h948 (h 82 2) 3 = h (h 82 2) 3 := my_fr.at frh948 n_Ln.2.2.2.1 rfl
              have q14 : h948 (h 82 2) 4 = h (h 82 2) 4 := my_fr.at frh948 n_Ln.2.2.2.1 rfl
              have q19 : h948 (h 82 2) 9 = h (h 82 2) 9 := my_fr.at frh948 n_Ln.2.2.2.1 rfl
              have qc : h948 2 = h 2 := funext (fun j => my_fr.at frh948 is_2 rfl)
              have zF := xp967
              simp only [q2, q11, q13, q14, q19, qc] at zF
              have st : h965 82 2 = h 82 2 ∧ h965 (h 82 2) 3 = h (h 82 2) 3 ∧ h965 (h 82 2) 4 = h (h 82 2) 4 ∧ h965 (h 82 2) 9 = h (h 82 2) 9 ∧ h965 (h 82 2) 1 = h (h 82 2) 1 := ⟨(my_fr.at frh965 is_82 rfl).trans q2, (my_fr.at frh965 n_Ln.2.2.2.1 rfl).trans q13, (my_fr.at frh965 n_Ln.2.2.2.1 rfl).trans q14, (my_fr.at frh965 n_Ln.2.2.2.1 rfl).trans q19, (my_fr.at frh965 n_Ln.2.2.2.1 rfl).trans q11⟩
              refine w_goto (t := 140) gz_49_99 rfl ?_
              have psR : h965 82 7 = h965 82 7 := (rfl : h965 82 7 = h965 82 7)
              have npsR : cs h965 = cs h := cs_eq (fun j => my_fr.at gh965 is_92 rfl) (my_fr.at gh965 is_82 rfl)
              have c975 := w966
              exact w_vret gz_49_140 gm_49 (k1 h965 (gh965) (by omega) (by first | exact Lo_h965 | exact ⟨st.1, st.2.1, st.2.2.2.2⟩ | exact Or.inl ⟨by omega, zF, st.2.2.1, st.2.2.2.1⟩ | exact Or.inr (Or.inr (Or.inl ⟨by omega, by omega, zC, st.2.2.1, st.2.2.2.1⟩)) | exact Or.inr (Or.inr (Or.inr (Or.inl ⟨by omega, by omega, zW, st.2.2.2.1⟩))) | exact Or.inr (Or.inr (Or.inr (Or.inr (Or.inl ⟨by omega, by omega, zJ, fun _ => st.2.2.1, st.2.2.2.1⟩)))) | exact Or.inr (Or.inr (Or.inr (Or.inr (Or.inr (Or.inl ⟨by omega, by omega, zS, st.2.2.1, st.2.2.2.1⟩))))) | exact ⟨_, _, _, Or.inl ⟨by omega, zF, rfl, rfl⟩⟩ | exact ⟨_, _, _, Or.inr (Or.inr (Or.inl ⟨by omega, by omega, zC, rfl, rfl⟩))⟩ | exact ⟨_, _, _, Or.inr (Or.inr (Or.inr (Or.inl ⟨by omega, by omega, zW, rfl⟩)))⟩ | exact ⟨_, _, _, Or.inr (Or.inr (Or.inr (Or.inr (Or.inl ⟨by omega, by omega, zJ, fun q => absurd q (by omega), rfl⟩))))⟩ | exact ⟨_, _, _, Or.inr (Or.inr (Or.inr (Or.inr (Or.inr (Or.inl ⟨by omega, by omega, zS, rfl, rfl⟩)))))⟩ | exact ⟨0, 0, 0, Or.inr (Or.inl ⟨by omega, by omega, by omega⟩)⟩ | exact ⟨0, 0, 0, Or.inr (Or.inr (Or.inr (Or.inr (Or.inr (Or.inr ⟨by omega, by omega, by omega, by omega, by omega, by omega⟩)))))⟩ | (exfalso; omega) | omega) (by first | exact Lo_h965 | exact ⟨st.1, st.2.1, st.2.2.2.2⟩ | exact Or.inl ⟨by omega, zF, st.2.2.1, st.2.2.2.1⟩ | exact Or.inr (Or.inr (Or.inl ⟨by omega, by omega, zC, st.2.2.1, st.2.2.2.1⟩)) | exact Or.inr (Or.inr (Or.inr (Or.inl ⟨by omega, by omega, zW, st.2.2.2.1⟩))) | exact Or.inr (Or.inr (Or.inr (Or.inr (Or.inl ⟨by omega, by omega, zJ, fun _ => st.2.2.1, st.2.2.2.1⟩)))) | exact Or.inr (Or.inr (Or.inr (Or.inr (Or.inr (Or.inl ⟨by omega, by omega, zS, st.2.2.1, st.2.2.2.1⟩))))) | exact ⟨_, _, _, Or.inl ⟨by omega, zF, rfl, rfl⟩⟩ | exact ⟨_, _, _, Or.inr (Or.inr (Or.inl ⟨by omega, by omega, zC, rfl, rfl⟩))⟩ | exact ⟨_, _, _, Or.inr (Or.inr (Or.inr (Or.inl ⟨by omega, by omega, zW, rfl⟩)))⟩ | exact ⟨_, _, _, Or.inr (Or.inr (Or.inr (Or.inr (Or.inl ⟨by omega, by omega, zJ, fun q => absurd q (by omega), rfl⟩))))⟩ | exact ⟨_, _, _, Or.inr (Or.inr (Or.inr (Or.inr (Or.inr (Or.inl ⟨by omega, by omega, zS, rfl, rfl⟩)))))⟩ | exact ⟨0, 0, 0, Or.inr (Or.inl ⟨by omega, by omega, by omega⟩)⟩ | exact ⟨0, 0, 0, Or.inr (Or.inr (Or.inr (Or.inr (Or.inr (Or.inr ⟨by omega, by omega, by omega, by omega, by omega, by omega⟩)))))⟩ | (exfalso; omega) | omega) (by first | exact Lo_h965 | exact ⟨st.1, st.2.1, st.2.2.2.2⟩ | exact Or.inl ⟨by omega, zF, st.2.2.1, st.2.2.2.1⟩ | exact Or.inr (Or.inr (Or.inl ⟨by omega, by omega, zC, st.2.2.1, st.2.2.2.1⟩)) | exact Or.inr (Or.inr (Or.inr (Or.inl ⟨by omega, by omega, zW, st.2.2.2.1⟩))) | exact Or.inr (Or.inr (Or.inr (Or.inr (Or.inl ⟨by omega, by omega, zJ, fun _ => st.2.2.1, st.2.2.2.1⟩)))) | exact Or.inr (Or.inr (Or.inr (Or.inr (Or.inr (Or.inl ⟨by omega, by omega, zS, st.2.2.1, st.2.2.2.1⟩))))) | exact ⟨_, _, _, Or.inl ⟨by omega, zF, rfl, rfl⟩⟩ | exact ⟨_, _, _, Or.inr (Or.inr (Or.inl ⟨by omega, by omega, zC, rfl, rfl⟩))⟩ | exact ⟨_, _, _, Or.inr (Or.inr (Or.inr (Or.inl ⟨by omega, by omega, zW, rfl⟩)))⟩ | exact ⟨_, _, _, Or.inr (Or.inr (Or.inr (Or.inr (Or.inl ⟨by omega, by omega, zJ, fun q => absurd q (by omega), rfl⟩))))⟩ | exact ⟨_, _, _, Or.inr (Or.inr (Or.inr (Or.inr (Or.inr (Or.inl ⟨by omega, by omega, zS, rfl, rfl⟩)))))⟩ | exact ⟨0, 0, 0, Or.inr (Or.inl ⟨by omega, by omega, by omega⟩)⟩ | exact ⟨0, 0, 0, Or.inr (Or.inr (Or.inr (Or.inr (Or.inr (Or.inr ⟨by omega, by omega, by omega, by omega, by omega, by omega⟩)))))⟩ | (exfalso; omega) | omega) Ln_h965 Sp_h965 Al_h965t968 Cu_h965t969)
      ·
        show wp l rho (d + 7) 49 20 [(2, 82), (0, 1), (0, 0), (9, 0), (9, 0), (9, 0)] [(0, 1)] h Q
        rw [show wc ((6 : Nat) : Int) = 8422 from by decide] at xp840
        refine w_istore_n (ls' := [(2, 82), (0, 1), (0, 0), (0, 1), (9, 0), (9, 0)]) gz_49_20 gm_49 rfl rfl rfl ?_
        refine w_aload_n gz_49_21 rfl ?_
        refine w_ldcS gz_49_22 (by decide) ?_
        refine w_inv (k := 1) (as := [(3, ((7 : Nat) : Int))]) (r := []) (x := 82) (ls0 := [(2, 82), (3, ((7 : Nat) : Int)), (9, 0)]) gz_49_24 gm_41 rfl is_82 rd_5 rfl rfl rfl rfl rfl (c_Reader_isWord9_f0 (d := (d + 2)) (x1 := ((7 : Nat) : Int)) (by decide) (cf.trans (by omega)) n_Cu (fun w976 xp977 => ?_) (fun w978 w979 xp980 => ?_))
        ·
          show wp l rho (d + 7) 49 27 [(2, 82), (0, 1), (0, 0), (0, 1), (9, 0), (9, 0)] [(0, 0)] h Q
          rw [show wc ((7 : Nat) : Int) = 527412 from by decide] at xp977
          refine w_istore (ls' := [(2, 82), (0, 1), (0, 0), (0, 1), (0, 0), (9, 0)]) gz_49_27 gm_49 rfl rfl rfl ?_
          refine w_aload_n gz_49_29 rfl ?_
          refine w_ldcS gz_49_30 (by decide) ?_
          refine w_inv (k := 1) (as := [(3, ((8 : Nat) : Int))]) (r := []) (x := 82) (ls0 := [(2, 82), (3, ((8 : Nat) : Int)), (9, 0)]) gz_49_32 gm_41 rfl is_82 rd_5 rfl rfl rfl rfl rfl (c_Reader_isWord9_f0 (d := (d + 2)) (x1 := ((8 : Nat) : Int)) (by decide) (cf.trans (by omega)) n_Cu (fun w981 xp982 => ?_) (fun w983 w984 xp985 => ?_))
          ·
            show wp l rho (d + 7) 49 35 [(2, 82), (0, 1), (0, 0), (0, 1), (0, 0), (9, 0)] [(0, 0)] h Q
            rw [show wc ((8 : Nat) : Int) = 26801 from by decide] at xp982
            refine w_istore (ls' := [(2, 82), (0, 1), (0, 0), (0, 1), (0, 0), (0, 0)]) gz_49_35 gm_49 rfl rfl rfl ?_
            refine w_iload_n gz_49_37 rfl ?_
            refine w_ifne (t := 65) gz_49_38 rfl (fun u986 => ?_) (fun u986 => by exfalso; omega)
            refine w_iload_n gz_49_65 rfl ?_
            refine w_ifne (t := 87) gz_49_66 rfl (fun u987 => ?_) (fun u987 => by exfalso; omega)
            refine w_aload_n gz_49_87 rfl ?_
            refine w_inv (k := 2) (as := []) (r := []) (x := 82) (ls0 := [(2, 82), (9, 0), (9, 0)]) gz_49_88 gm_37 rfl is_82 rd_5 rfl rfl rfl rfl rfl (c_Reader_nextToken9_f0 (d := (d + 5))  (cf.trans (by omega)) n_Al (fun h988 frh988 w989 w990 w991 xp992 xp993 Al_h988t994 Cu_h988t995 => ?_))
            have gh988 : my_fr [(4, 4), (4, 5), (4, 6), (4, 7), (4, 8), (4, 9), (5, 5), (5, 6), (5, 7), (5, 8), (5, 9), (32, -1), (33, -1), (34, -1), (35, -1), (36, -1), (37, -1), (38, -1), (39, -1)] h h988 := my_fr.tr my_fr.rf (frh988.mo rfl)
            have Ln_h988 : Ln h988 := Ln_ag (my_ag.fr frh988 rfl) n_Ln
            have Sp_h988 : Sp h988 wv := Sp_ag (my_ag.fr frh988 rfl) hwv n_Ln n_Sp
            have Lo_h988 : Lo h h988 := Lo_ag (my_ag.fr frh988 rfl) n_Ln (Lo_rf)
            show wp l rho (d + 7) 49 91 [(2, 82), (0, 1), (0, 0), (0, 1), (0, 0), (0, 0)] [] h988 Q
            have xc996 := xp992 n_Cu
            have ck997 := Cu_s Cu_h988t995
            rw [show cs h988 = cs h from cs_eq (fun j => my_fr.at gh988 is_92 rfl) (my_fr.at gh988 is_82 rfl)] at ck997
            rw [show h988 82 7 = (sN (cs h) (h 82 7)) from xc996] at ck997
            refine w_iload_n gz_49_91 rfl ?_
            refine w_ifeq (t := 102) gz_49_92 rfl (fun u998 => by exfalso; omega) (fun u998 => ?_)
            refine w_aload_n gz_49_95 rfl ?_
            refine w_inv (k := 2) (as := []) (r := []) (x := 82) (ls0 := [(2, 82), (9, 0), (9, 0)]) gz_49_96 gm_50 rfl is_82 rd_5 rfl rfl rfl rfl rfl (c_Reader_readFill9_f0 (d := (d + 3))  (((my_fr.at frh988 is_82 rfl).trans cf).trans (by omega)) Al_h988t994 Cu_h988t995 (fun h999 frh999 w1000 w1001 xp1002 Al_h999t1003 Cu_h999t1004 => ?_) (fun h1005 frh1005 w1006 xp1007 Al_h1005t1008 Cu_h1005t1009 => ?_))
            ·
              have gh999 : my_fr [(4, 4), (4, 5), (4, 6), (4, 7), (4, 8), (4, 9), (5, 5), (5, 6), (5, 7), (5, 8), (5, 9), (32, -1), (33, -1), (34, -1), (35, -1), (36, -1), (37, -1), (38, -1), (39, -1)] h h999 := my_fr.tr gh988 (frh999.mo rfl)
              have Ln_h999 : Ln h999 := Ln_ag (my_ag.fr frh999 rfl) Ln_h988
              have Sp_h999 : Sp h999 wv := Sp_ag (my_ag.fr frh999 rfl) hwv Ln_h988 Sp_h988
              have Lo_h999 : Lo h h999 := Lo_ag (my_ag.fr frh999 rfl) Ln_h988 Lo_h988
              show wp l rho (d + 7) 49 99 [(2, 82), (0, 1), (0, 0), (0, 1), (0, 0), (0, 0)] [] h999 Q
              have tE1010 : cs h988 = cs h := cs_eq (fun j => my_fr.at gh988 is_92 rfl) (my_fr.at gh988 is_82 rfl)
              rw [tE1010] at xp1002
              have ps1011 : h988 82 7 = (sN (cs h) (h 82 7)) := xc996
              rw [ps1011] at xp1002
              have q2 : h988 82 2 = h 82 2 := my_fr.at frh988 is_82 rfl
              have q11 : h988 (h 82 2) 1 = h (h 82 2) 1 := my_fr.at frh988 n_Ln.2.2.2.1 rfl
              have q13 : h988 (h 82 2) 3 = h (h 82 2) 3 := my_fr.at frh988 n_Ln.2.2.2.1 rfl
              have q14 : h988 (h 82 2) 4 = h (h 82 2) 4 := my_fr.at frh988 n_Ln.2.2.2.1 rfl
              have q19 : h988 (h 82 2) 9 = h (h 82 2) 9 := my_fr.at frh988 n_Ln.2.2.2.1 rfl
              have qc : h988 2 = h 2 := funext (fun j => my_fr.at frh988 is_2 rfl)
              have zF := xp1002
              simp only [q2, q11, q13, q14, q19, qc] at zF
              have st : h999 82 2 = h 82 2 ∧ h999 (h 82 2) 3 = h (h 82 2) 3 ∧ h999 (h 82 2) 4 = h (h 82 2) 4 ∧ h999 (h 82 2) 9 = h (h 82 2) 9 ∧ h999 (h 82 2) 1 = h (h 82 2) 1 := ⟨(my_fr.at frh999 is_82 rfl).trans q2, (my_fr.at frh999 n_Ln.2.2.2.1 rfl).trans q13, (my_fr.at frh999 n_Ln.2.2.2.1 rfl).trans q14, (my_fr.at frh999 n_Ln.2.2.2.1 rfl).trans q19, (my_fr.at frh999 n_Ln.2.2.2.1 rfl).trans q11⟩
              refine w_goto (t := 140) gz_49_99 rfl ?_
              have psR : h999 82 7 = h999 82 7 := (rfl : h999 82 7 = h999 82 7)
              have npsR : cs h999 = cs h := cs_eq (fun j => my_fr.at gh999 is_92 rfl) (my_fr.at gh999 is_82 rfl)
              have c1012 := (rfl : h999 82 9 = h999 82 9)
              exact w_vret gz_49_140 gm_49 (k0 h999 (gh999) (by omega) (by omega) (by first | exact Lo_h999 | exact ⟨st.1, st.2.1, st.2.2.2.2⟩ | exact Or.inl ⟨by omega, zF, st.2.2.1, st.2.2.2.1⟩ | exact Or.inr (Or.inr (Or.inl ⟨by omega, by omega, zC, st.2.2.1, st.2.2.2.1⟩)) | exact Or.inr (Or.inr (Or.inr (Or.inl ⟨by omega, by omega, zW, st.2.2.2.1⟩))) | exact Or.inr (Or.inr (Or.inr (Or.inr (Or.inl ⟨by omega, by omega, zJ, fun _ => st.2.2.1, st.2.2.2.1⟩)))) | exact Or.inr (Or.inr (Or.inr (Or.inr (Or.inr (Or.inl ⟨by omega, by omega, zS, st.2.2.1, st.2.2.2.1⟩))))) | exact ⟨_, _, _, Or.inl ⟨by omega, zF, rfl, rfl⟩⟩ | exact ⟨_, _, _, Or.inr (Or.inr (Or.inl ⟨by omega, by omega, zC, rfl, rfl⟩))⟩ | exact ⟨_, _, _, Or.inr (Or.inr (Or.inr (Or.inl ⟨by omega, by omega, zW, rfl⟩)))⟩ | exact ⟨_, _, _, Or.inr (Or.inr (Or.inr (Or.inr (Or.inl ⟨by omega, by omega, zJ, fun q => absurd q (by omega), rfl⟩))))⟩ | exact ⟨_, _, _, Or.inr (Or.inr (Or.inr (Or.inr (Or.inr (Or.inl ⟨by omega, by omega, zS, rfl, rfl⟩)))))⟩ | exact ⟨0, 0, 0, Or.inr (Or.inl ⟨by omega, by omega, by omega⟩)⟩ | exact ⟨0, 0, 0, Or.inr (Or.inr (Or.inr (Or.inr (Or.inr (Or.inr ⟨by omega, by omega, by omega, by omega, by omega, by omega⟩)))))⟩ | (exfalso; omega) | omega) (by first | exact Lo_h999 | exact ⟨st.1, st.2.1, st.2.2.2.2⟩ | exact Or.inl ⟨by omega, zF, st.2.2.1, st.2.2.2.1⟩ | exact Or.inr (Or.inr (Or.inl ⟨by omega, by omega, zC, st.2.2.1, st.2.2.2.1⟩)) | exact Or.inr (Or.inr (Or.inr (Or.inl ⟨by omega, by omega, zW, st.2.2.2.1⟩))) | exact Or.inr (Or.inr (Or.inr (Or.inr (Or.inl ⟨by omega, by omega, zJ, fun _ => st.2.2.1, st.2.2.2.1⟩)))) | exact Or.inr (Or.inr (Or.inr (Or.inr (Or.inr (Or.inl ⟨by omega, by omega, zS, st.2.2.1, st.2.2.2.1⟩))))) | exact ⟨_, _, _, Or.inl ⟨by omega, zF, rfl, rfl⟩⟩ | exact ⟨_, _, _, Or.inr (Or.inr (Or.inl ⟨by omega, by omega, zC, rfl, rfl⟩))⟩ | exact ⟨_, _, _, Or.inr (Or.inr (Or.inr (Or.inl ⟨by omega, by omega, zW, rfl⟩)))⟩ | exact ⟨_, _, _, Or.inr (Or.inr (Or.inr (Or.inr (Or.inl ⟨by omega, by omega, zJ, fun q => absurd q (by omega), rfl⟩))))⟩ | exact ⟨_, _, _, Or.inr (Or.inr (Or.inr (Or.inr (Or.inr (Or.inl ⟨by omega, by omega, zS, rfl, rfl⟩)))))⟩ | exact ⟨0, 0, 0, Or.inr (Or.inl ⟨by omega, by omega, by omega⟩)⟩ | exact ⟨0, 0, 0, Or.inr (Or.inr (Or.inr (Or.inr (Or.inr (Or.inr ⟨by omega, by omega, by omega, by omega, by omega, by omega⟩)))))⟩ | (exfalso; omega) | omega) Ln_h999 Sp_h999 Al_h999t1003 Cu_h999t1004)
            ·
              have gh1005 : my_fr [(4, 4), (4, 5), (4, 6), (4, 7), (4, 8), (4, 9), (5, 5), (5, 6), (5, 7), (5, 8), (5, 9), (32, -1), (33, -1), (34, -1), (35, -1), (36, -1), (37, -1), (38, -1), (39, -1)] h h1005 := my_fr.tr gh988 (frh1005.mo rfl)
              have Ln_h1005 : Ln h1005 := Ln_ag (my_ag.fr frh1005 rfl) Ln_h988
              have Sp_h1005 : Sp h1005 wv := Sp_ag (my_ag.fr frh1005 rfl) hwv Ln_h988 Sp_h988
              have Lo_h1005 : Lo h h1005 := Lo_ag (my_ag.fr frh1005 rfl) Ln_h988 Lo_h988
              show wp l rho (d + 7) 49 99 [(2, 82), (0, 1), (0, 0), (0, 1), (0, 0), (0, 0)] [] h1005 Q
              have tE1013 : cs h988 = cs h := cs_eq (fun j => my_fr.at gh988 is_92 rfl) (my_fr.at gh988 is_82 rfl)
              rw [tE1013] at xp1007
              have ps1014 : h988 82 7 = (sN (cs h) (h 82 7)) := xc996
              rw [ps1014] at xp1007
              have q2 : h988 82 2 = h 82 2 := my_fr.at frh988 is_82 rfl
              have q11 : h988 (h 82 2) 1 = h (h 82 2) 1 := my_fr.at frh988 n_Ln.2.2.2.1 rfl
              have q13 : h988 (h 82 2) 3 = h (h 82 2) 3 := my_fr.at frh988 n_Ln.2.2.2.1 rfl
              have q14 : h988 (h 82 2) 4 = h (h 82 2) 4 := my_fr.at frh988 n_Ln.2.2.2.1 rfl
              have q19 : h988 (h 82 2) 9 = h (h 82 2) 9 := my_fr.at frh988 n_Ln.2.2.2.1 rfl
              have qc : h988 2 = h 2 := funext (fun j => my_fr.at frh988 is_2 rfl)
              have zF := xp1007
              simp only [q2, q11, q13, q14, q19, qc] at zF
              have st : h1005 82 2 = h 82 2 ∧ h1005 (h 82 2) 3 = h (h 82 2) 3 ∧ h1005 (h 82 2) 4 = h (h 82 2) 4 ∧ h1005 (h 82 2) 9 = h (h 82 2) 9 ∧ h1005 (h 82 2) 1 = h (h 82 2) 1 := ⟨(my_fr.at frh1005 is_82 rfl).trans q2, (my_fr.at frh1005 n_Ln.2.2.2.1 rfl).trans q13, (my_fr.at frh1005 n_Ln.2.2.2.1 rfl).trans q14, (my_fr.at frh1005 n_Ln.2.2.2.1 rfl).trans q19, (my_fr.at frh1005 n_Ln.2.2.2.1 rfl).trans q11⟩
              refine w_goto (t := 140) gz_49_99 rfl ?_
              have psR : h1005 82 7 = h1005 82 7 := (rfl : h1005 82 7 = h1005 82 7)
              have npsR : cs h1005 = cs h := cs_eq (fun j => my_fr.at gh1005 is_92 rfl) (my_fr.at gh1005 is_82 rfl)
              have c1015 := w1006
              exact w_vret gz_49_140 gm_49 (k1 h1005 (gh1005) (by omega) (by first | exact Lo_h1005 | exact ⟨st.1, st.2.1, st.2.2.2.2⟩ | exact Or.inl ⟨by omega, zF, st.2.2.1, st.2.2.2.1⟩ | exact Or.inr (Or.inr (Or.inl ⟨by omega, by omega, zC, st.2.2.1, st.2.2.2.1⟩)) | exact Or.inr (Or.inr (Or.inr (Or.inl ⟨by omega, by omega, zW, st.2.2.2.1⟩))) | exact Or.inr (Or.inr (Or.inr (Or.inr (Or.inl ⟨by omega, by omega, zJ, fun _ => st.2.2.1, st.2.2.2.1⟩)))) | exact Or.inr (Or.inr (Or.inr (Or.inr (Or.inr (Or.inl ⟨by omega, by omega, zS, st.2.2.1, st.2.2.2.1⟩))))) | exact ⟨_, _, _, Or.inl ⟨by omega, zF, rfl, rfl⟩⟩ | exact ⟨_, _, _, Or.inr (Or.inr (Or.inl ⟨by omega, by omega, zC, rfl, rfl⟩))⟩ | exact ⟨_, _, _, Or.inr (Or.inr (Or.inr (Or.inl ⟨by omega, by omega, zW, rfl⟩)))⟩ | exact ⟨_, _, _, Or.inr (Or.inr (Or.inr (Or.inr (Or.inl ⟨by omega, by omega, zJ, fun q => absurd q (by omega), rfl⟩))))⟩ | exact ⟨_, _, _, Or.inr (Or.inr (Or.inr (Or.inr (Or.inr (Or.inl ⟨by omega, by omega, zS, rfl, rfl⟩)))))⟩ | exact ⟨0, 0, 0, Or.inr (Or.inl ⟨by omega, by omega, by omega⟩)⟩ | exact ⟨0, 0, 0, Or.inr (Or.inr (Or.inr (Or.inr (Or.inr (Or.inr ⟨by omega, by omega, by omega, by omega, by omega, by omega⟩)))))⟩ | (exfalso; omega) | omega) (by first | exact Lo_h1005 | exact ⟨st.1, st.2.1, st.2.2.2.2⟩ | exact Or.inl ⟨by omega, zF, st.2.2.1, st.2.2.2.1⟩ | exact Or.inr (Or.inr (Or.inl ⟨by omega, by omega, zC, st.2.2.1, st.2.2.2.1⟩)) | exact Or.inr (Or.inr (Or.inr (Or.inl ⟨by omega, by omega, zW, st.2.2.2.1⟩))) | exact Or.inr (Or.inr (Or.inr (Or.inr (Or.inl ⟨by omega, by omega, zJ, fun _ => st.2.2.1, st.2.2.2.1⟩)))) | exact Or.inr (Or.inr (Or.inr (Or.inr (Or.inr (Or.inl ⟨by omega, by omega, zS, st.2.2.1, st.2.2.2.1⟩))))) | exact ⟨_, _, _, Or.inl ⟨by omega, zF, rfl, rfl⟩⟩ | exact ⟨_, _, _, Or.inr (Or.inr (Or.inl ⟨by omega, by omega, zC, rfl, rfl⟩))⟩ | exact ⟨_, _, _, Or.inr (Or.inr (Or.inr (Or.inl ⟨by omega, by omega, zW, rfl⟩)))⟩ | exact ⟨_, _, _, Or.inr (Or.inr (Or.inr (Or.inr (Or.inl ⟨by omega, by omega, zJ, fun q => absurd q (by omega), rfl⟩))))⟩ | exact ⟨_, _, _, Or.inr (Or.inr (Or.inr (Or.inr (Or.inr (Or.inl ⟨by omega, by omega, zS, rfl, rfl⟩)))))⟩ | exact ⟨0, 0, 0, Or.inr (Or.inl ⟨by omega, by omega, by omega⟩)⟩ | exact ⟨0, 0, 0, Or.inr (Or.inr (Or.inr (Or.inr (Or.inr (Or.inr ⟨by omega, by omega, by omega, by omega, by omega, by omega⟩)))))⟩ | (exfalso; omega) | omega) (by first | exact Lo_h1005 | exact ⟨st.1, st.2.1, st.2.2.2.2⟩ | exact Or.inl ⟨by omega, zF, st.2.2.1, st.2.2.2.1⟩ | exact Or.inr (Or.inr (Or.inl ⟨by omega, by omega, zC, st.2.2.1, st.2.2.2.1⟩)) | exact Or.inr (Or.inr (Or.inr (Or.inl ⟨by omega, by omega, zW, st.2.2.2.1⟩))) | exact Or.inr (Or.inr (Or.inr (Or.inr (Or.inl ⟨by omega, by omega, zJ, fun _ => st.2.2.1, st.2.2.2.1⟩)))) | exact Or.inr (Or.inr (Or.inr (Or.inr (Or.inr (Or.inl ⟨by omega, by omega, zS, st.2.2.1, st.2.2.2.1⟩))))) | exact ⟨_, _, _, Or.inl ⟨by omega, zF, rfl, rfl⟩⟩ | exact ⟨_, _, _, Or.inr (Or.inr (Or.inl ⟨by omega, by omega, zC, rfl, rfl⟩))⟩ | exact ⟨_, _, _, Or.inr (Or.inr (Or.inr (Or.inl ⟨by omega, by omega, zW, rfl⟩)))⟩ | exact ⟨_, _, _, Or.inr (Or.inr (Or.inr (Or.inr (Or.inl ⟨by omega, by omega, zJ, fun q => absurd q (by omega), rfl⟩))))⟩ | exact ⟨_, _, _, Or.inr (Or.inr (Or.inr (Or.inr (Or.inr (Or.inl ⟨by omega, by omega, zS, rfl, rfl⟩)))))⟩ | exact ⟨0, 0, 0, Or.inr (Or.inl ⟨by omega, by omega, by omega⟩)⟩ | exact ⟨0, 0, 0, Or.inr (Or.inr (Or.inr (Or.inr (Or.inr (Or.inr ⟨by omega, by omega, by omega, by omega, by omega, by omega⟩)))))⟩ | (exfalso; omega) | omega) Ln_h1005 Sp_h1005 Al_h1005t1008 Cu_h1005t1009)
          ·
            show wp l rho (d + 7) 49 35 [(2, 82), (0, 1), (0, 0), (0, 1), (0, 0), (9, 0)] [(0, 1)] h Q
            rw [show wc ((8 : Nat) : Int) = 26801 from by decide] at xp985
            refine w_istore (ls' := [(2, 82), (0, 1), (0, 0), (0, 1), (0, 0), (0, 1)]) gz_49_35 gm_49 rfl rfl rfl ?_
            refine w_iload_n gz_49_37 rfl ?_
            refine w_ifne (t := 65) gz_49_38 rfl (fun u1016 => ?_) (fun u1016 => by exfalso; omega)
            refine w_iload_n gz_49_65 rfl ?_
            refine w_ifne (t := 87) gz_49_66 rfl (fun u1017 => ?_) (fun u1017 => by exfalso; omega)
            refine w_aload_n gz_49_87 rfl ?_
            refine w_inv (k := 2) (as := []) (r := []) (x := 82) (ls0 := [(2, 82), (9, 0), (9, 0)]) gz_49_88 gm_37 rfl is_82 rd_5 rfl rfl rfl rfl rfl (c_Reader_nextToken9_f0 (d := (d + 5))  (cf.trans (by omega)) n_Al (fun h1018 frh1018 w1019 w1020 w1021 xp1022 xp1023 Al_h1018t1024 Cu_h1018t1025 => ?_))
            have gh1018 : my_fr [(4, 4), (4, 5), (4, 6), (4, 7), (4, 8), (4, 9), (5, 5), (5, 6), (5, 7), (5, 8), (5, 9), (32, -1), (33, -1), (34, -1), (35, -1), (36, -1), (37, -1), (38, -1), (39, -1)] h h1018 := my_fr.tr my_fr.rf (frh1018.mo rfl)
            have Ln_h1018 : Ln h1018 := Ln_ag (my_ag.fr frh1018 rfl) n_Ln
            have Sp_h1018 : Sp h1018 wv := Sp_ag (my_ag.fr frh1018 rfl) hwv n_Ln n_Sp
            have Lo_h1018 : Lo h h1018 := Lo_ag (my_ag.fr frh1018 rfl) n_Ln (Lo_rf)
            show wp l rho (d + 7) 49 91 [(2, 82), (0, 1), (0, 0), (0, 1), (0, 0), (0, 1)] [] h1018 Q
            have xc1026 := xp1022 n_Cu
            have ck1027 := Cu_s Cu_h1018t1025
            rw [show cs h1018 = cs h from cs_eq (fun j => my_fr.at gh1018 is_92 rfl) (my_fr.at gh1018 is_82 rfl)] at ck1027
            rw [show h1018 82 7 = (sN (cs h) (h 82 7)) from xc1026] at ck1027
            refine w_iload_n gz_49_91 rfl ?_
            refine w_ifeq (t := 102) gz_49_92 rfl (fun u1028 => by exfalso; omega) (fun u1028 => ?_)
            refine w_aload_n gz_49_95 rfl ?_
            refine w_inv (k := 2) (as := []) (r := []) (x := 82) (ls0 := [(2, 82), (9, 0), (9, 0)]) gz_49_96 gm_50 rfl is_82 rd_5 rfl rfl rfl rfl rfl (c_Reader_readFill9_f0 (d := (d + 3))  (((my_fr.at frh1018 is_82 rfl).trans cf).trans (by omega)) Al_h1018t1024 Cu_h1018t1025 (fun h1029 frh1029 w1030 w1031 xp1032 Al_h1029t1033 Cu_h1029t1034 => ?_) (fun h1035 frh1035 w1036 xp1037 Al_h1035t1038 Cu_h1035t1039 => ?_))
            ·
              have gh1029 : my_fr [(4, 4), (4, 5), (4, 6), (4, 7), (4, 8), (4, 9), (5, 5), (5, 6), (5, 7), (5, 8), (5, 9), (32, -1), (33, -1), (34, -1), (35, -1), (36, -1), (37, -1), (38, -1), (39, -1)] h h1029 := my_fr.tr gh1018 (frh1029.mo rfl)
              have Ln_h1029 : Ln h1029 := Ln_ag (my_ag.fr frh1029 rfl) Ln_h1018
              have Sp_h1029 : Sp h1029 wv := Sp_ag (my_ag.fr frh1029 rfl) hwv Ln_h1018 Sp_h1018
              have Lo_h1029 : Lo h h1029 := Lo_ag (my_ag.fr frh1029 rfl) Ln_h1018 Lo_h1018
              show wp l rho (d + 7) 49 99 [(2, 82), (0, 1), (0, 0), (0, 1), (0, 0), (0, 1)] [] h1029 Q
              have tE1040 : cs h1018 = cs h := cs_eq (fun j => my_fr.at gh1018 is_92 rfl) (my_fr.at gh1018 is_82 rfl)
              rw [tE1040] at xp1032
              have ps1041 : h1018 82 7 = (sN (cs h) (h 82 7)) := xc1026
              rw [ps1041] at xp1032
              have q2 : h1018 82 2 = h 82 2 := my_fr.at frh1018 is_82 rfl
              have q11 : h1018 (h 82 2) 1 = h (h 82 2) 1 := my_fr.at frh1018 n_Ln.2.2.2.1 rfl
              have q13 : h1018 (h 82 2) 3 = h (h 82 2) 3 := my_fr.at frh1018 n_Ln.2.2.2.1 rfl
              have q14 : h1018 (h 82 2) 4 = h (h 82 2) 4 := my_fr.at frh1018 n_Ln.2.2.2.1 rfl
              have q19 : h1018 (h 82 2) 9 = h (h 82 2) 9 := my_fr.at frh1018 n_Ln.2.2.2.1 rfl
              have qc : h1018 2 = h 2 := funext (fun j => my_fr.at frh1018 is_2 rfl)
              have zF := xp1032
              simp only [q2, q11, q13, q14, q19, qc] at zF
              have st : h1029 82 2 = h 82 2 ∧ h1029 (h 82 2) 3 = h (h 82 2) 3 ∧ h1029 (h 82 2) 4 = h (h 82 2) 4 ∧ h1029 (h 82 2) 9 = h (h 82 2) 9 ∧ h1029 (h 82 2) 1 = h (h 82 2) 1 := ⟨(my_fr.at frh1029 is_82 rfl).trans q2, (my_fr.at frh1029 n_Ln.2.2.2.1 rfl).trans q13, (my_fr.at frh1029 n_Ln.2.2.2.1 rfl).trans q14, (my_fr.at frh1029 n_Ln.2.2.2.1 rfl).trans q19, (my_fr.at frh1029 n_Ln.2.2.2.1 rfl).trans q11⟩
              refine w_goto (t := 140) gz_49_99 rfl ?_
              have psR : h1029 82 7 = h1029 82 7 := (rfl : h1029 82 7 = h1029 82 7)
              have npsR : cs h1029 = cs h := cs_eq (fun j => my_fr.at gh1029 is_92 rfl) (my_fr.at gh1029 is_82 rfl)
              have c1042 := (rfl : h1029 82 9 = h1029 82 9)
              exact w_vret gz_49_140 gm_49 (k0 h1029 (gh1029) (by omega) (by omega) (by first | exact Lo_h1029 | exact ⟨st.1, st.2.1, st.2.2.2.2⟩ | exact Or.inl ⟨by omega, zF, st.2.2.1, st.2.2.2.1⟩ | exact Or.inr (Or.inr (Or.inl ⟨by omega, by omega, zC, st.2.2.1, st.2.2.2.1⟩)) | exact Or.inr (Or.inr (Or.inr (Or.inl ⟨by omega, by omega, zW, st.2.2.2.1⟩))) | exact Or.inr (Or.inr (Or.inr (Or.inr (Or.inl ⟨by omega, by omega, zJ, fun _ => st.2.2.1, st.2.2.2.1⟩)))) | exact Or.inr (Or.inr (Or.inr (Or.inr (Or.inr (Or.inl ⟨by omega, by omega, zS, st.2.2.1, st.2.2.2.1⟩))))) | exact ⟨_, _, _, Or.inl ⟨by omega, zF, rfl, rfl⟩⟩ | exact ⟨_, _, _, Or.inr (Or.inr (Or.inl ⟨by omega, by omega, zC, rfl, rfl⟩))⟩ | exact ⟨_, _, _, Or.inr (Or.inr (Or.inr (Or.inl ⟨by omega, by omega, zW, rfl⟩)))⟩ | exact ⟨_, _, _, Or.inr (Or.inr (Or.inr (Or.inr (Or.inl ⟨by omega, by omega, zJ, fun q => absurd q (by omega), rfl⟩))))⟩ | exact ⟨_, _, _, Or.inr (Or.inr (Or.inr (Or.inr (Or.inr (Or.inl ⟨by omega, by omega, zS, rfl, rfl⟩)))))⟩ | exact ⟨0, 0, 0, Or.inr (Or.inl ⟨by omega, by omega, by omega⟩)⟩ | exact ⟨0, 0, 0, Or.inr (Or.inr (Or.inr (Or.inr (Or.inr (Or.inr ⟨by omega, by omega, by omega, by omega, by omega, by omega⟩)))))⟩ | (exfalso; omega) | omega) (by first | exact Lo_h1029 | exact ⟨st.1, st.2.1, st.2.2.2.2⟩ | exact Or.inl ⟨by omega, zF, st.2.2.1, st.2.2.2.1⟩ | exact Or.inr (Or.inr (Or.inl ⟨by omega, by omega, zC, st.2.2.1, st.2.2.2.1⟩)) | exact Or.inr (Or.inr (Or.inr (Or.inl ⟨by omega, by omega, zW, st.2.2.2.1⟩))) | exact Or.inr (Or.inr (Or.inr (Or.inr (Or.inl ⟨by omega, by omega, zJ, fun _ => st.2.2.1, st.2.2.2.1⟩)))) | exact Or.inr (Or.inr (Or.inr (Or.inr (Or.inr (Or.inl ⟨by omega, by omega, zS, st.2.2.1, st.2.2.2.1⟩))))) | exact ⟨_, _, _, Or.inl ⟨by omega, zF, rfl, rfl⟩⟩ | exact ⟨_, _, _, Or.inr (Or.inr (Or.inl ⟨by omega, by omega, zC, rfl, rfl⟩))⟩ | exact ⟨_, _, _, Or.inr (Or.inr (Or.inr (Or.inl ⟨by omega, by omega, zW, rfl⟩)))⟩ | exact ⟨_, _, _, Or.inr (Or.inr (Or.inr (Or.inr (Or.inl ⟨by omega, by omega, zJ, fun q => absurd q (by omega), rfl⟩))))⟩ | exact ⟨_, _, _, Or.inr (Or.inr (Or.inr (Or.inr (Or.inr (Or.inl ⟨by omega, by omega, zS, rfl, rfl⟩)))))⟩ | exact ⟨0, 0, 0, Or.inr (Or.inl ⟨by omega, by omega, by omega⟩)⟩ | exact ⟨0, 0, 0, Or.inr (Or.inr (Or.inr (Or.inr (Or.inr (Or.inr ⟨by omega, by omega, by omega, by omega, by omega, by omega⟩)))))⟩ | (exfalso; omega) | omega) Ln_h1029 Sp_h1029 Al_h1029t1033 Cu_h1029t1034)
            ·
              have gh1035 : my_fr [(4, 4), (4, 5), (4, 6), (4, 7), (4, 8), (4, 9), (5, 5), (5, 6), (5, 7), (5, 8), (5, 9), (32, -1), (33, -1), (34, -1), (35, -1), (36, -1), (37, -1), (38, -1), (39, -1)] h h1035 := my_fr.tr gh1018 (frh1035.mo rfl)
              have Ln_h1035 : Ln h1035 := Ln_ag (my_ag.fr frh1035 rfl) Ln_h1018
              have Sp_h1035 : Sp h1035 wv := Sp_ag (my_ag.fr frh1035 rfl) hwv Ln_h1018 Sp_h1018
              have Lo_h1035 : Lo h h1035 := Lo_ag (my_ag.fr frh1035 rfl) Ln_h1018 Lo_h1018
              show wp l rho (d + 7) 49 99 [(2, 82), (0, 1), (0, 0), (0, 1), (0, 0), (0, 1)] [] h1035 Q
              have tE1043 : cs h1018 = cs h := cs_eq (fun j => my_fr.at gh1018 is_92 rfl) (my_fr.at gh1018 is_82 rfl)
              rw [tE1043] at xp1037
              have ps1044 : h1018 82 7 = (sN (cs h) (h 82 7)) := xc1026
              rw [ps1044] at xp1037
              have q2 : h1018 82 2 = h 82 2 := my_fr.at frh1018 is_82 rfl
              have q11 : h1018 (h 82 2) 1 = h (h 82 2) 1 := my_fr.at frh1018 n_Ln.2.2.2.1 rfl
              have q13 : h1018 (h 82 2) 3 = h (h 82 2) 3 := my_fr.at frh1018 n_Ln.2.2.2.1 rfl
              have q14 : h1018 (h 82 2) 4 = h (h 82 2) 4 := my_fr.at frh1018 n_Ln.2.2.2.1 rfl
              have q19 : h1018 (h 82 2) 9 = h (h 82 2) 9 := my_fr.at frh1018 n_Ln.2.2.2.1 rfl
              have qc : h1018 2 = h 2 := funext (fun j => my_fr.at frh1018 is_2 rfl)
              have zF := xp1037
              simp only [q2, q11, q13, q14, q19, qc] at zF
              have st : h1035 82 2 = h 82 2 ∧ h1035 (h 82 2) 3 = h (h 82 2) 3 ∧ h1035 (h 82 2) 4 = h (h 82 2) 4 ∧ h1035 (h 82 2) 9 = h (h 82 2) 9 ∧ h1035 (h 82 2) 1 = h (h 82 2) 1 := ⟨(my_fr.at frh1035 is_82 rfl).trans q2, (my_fr.at frh1035 n_Ln.2.2.2.1 rfl).trans q13, (my_fr.at frh1035 n_Ln.2.2.2.1 rfl).trans q14, (my_fr.at frh1035 n_Ln.2.2.2.1 rfl).trans q19, (my_fr.at frh1035 n_Ln.2.2.2.1 rfl).trans q11⟩
              refine w_goto (t := 140) gz_49_99 rfl ?_
              have psR : h1035 82 7 = h1035 82 7 := (rfl : h1035 82 7 = h1035 82 7)
              have npsR : cs h1035 = cs h := cs_eq (fun j => my_fr.at gh1035 is_92 rfl) (my_fr.at gh1035 is_82 rfl)
              have c1045 := w1036
              exact w_vret gz_49_140 gm_49 (k1 h1035 (gh1035) (by omega) (by first | exact Lo_h1035 | exact ⟨st.1, st.2.1, st.2.2.2.2⟩ | exact Or.inl ⟨by omega, zF, st.2.2.1, st.2.2.2.1⟩ | exact Or.inr (Or.inr (Or.inl ⟨by omega, by omega, zC, st.2.2.1, st.2.2.2.1⟩)) | exact Or.inr (Or.inr (Or.inr (Or.inl ⟨by omega, by omega, zW, st.2.2.2.1⟩))) | exact Or.inr (Or.inr (Or.inr (Or.inr (Or.inl ⟨by omega, by omega, zJ, fun _ => st.2.2.1, st.2.2.2.1⟩)))) | exact Or.inr (Or.inr (Or.inr (Or.inr (Or.inr (Or.inl ⟨by omega, by omega, zS, st.2.2.1, st.2.2.2.1⟩))))) | exact ⟨_, _, _, Or.inl ⟨by omega, zF, rfl, rfl⟩⟩ | exact ⟨_, _, _, Or.inr (Or.inr (Or.inl ⟨by omega, by omega, zC, rfl, rfl⟩))⟩ | exact ⟨_, _, _, Or.inr (Or.inr (Or.inr (Or.inl ⟨by omega, by omega, zW, rfl⟩)))⟩ | exact ⟨_, _, _, Or.inr (Or.inr (Or.inr (Or.inr (Or.inl ⟨by omega, by omega, zJ, fun q => absurd q (by omega), rfl⟩))))⟩ | exact ⟨_, _, _, Or.inr (Or.inr (Or.inr (Or.inr (Or.inr (Or.inl ⟨by omega, by omega, zS, rfl, rfl⟩)))))⟩ | exact ⟨0, 0, 0, Or.inr (Or.inl ⟨by omega, by omega, by omega⟩)⟩ | exact ⟨0, 0, 0, Or.inr (Or.inr (Or.inr (Or.inr (Or.inr (Or.inr ⟨by omega, by omega, by omega, by omega, by omega, by omega⟩)))))⟩ | (exfalso; omega) | omega) (by first | exact Lo_h1035 | exact ⟨st.1, st.2.1, st.2.2.2.2⟩ | exact Or.inl ⟨by omega, zF, st.2.2.1, st.2.2.2.1⟩ | exact Or.inr (Or.inr (Or.inl ⟨by omega, by omega, zC, st.2.2.1, st.2.2.2.1⟩)) | exact Or.inr (Or.inr (Or.inr (Or.inl ⟨by omega, by omega, zW, st.2.2.2.1⟩))) | exact Or.inr (Or.inr (Or.inr (Or.inr (Or.inl ⟨by omega, by omega, zJ, fun _ => st.2.2.1, st.2.2.2.1⟩)))) | exact Or.inr (Or.inr (Or.inr (Or.inr (Or.inr (Or.inl ⟨by omega, by omega, zS, st.2.2.1, st.2.2.2.1⟩))))) | exact ⟨_, _, _, Or.inl ⟨by omega, zF, rfl, rfl⟩⟩ | exact ⟨_, _, _, Or.inr (Or.inr (Or.inl ⟨by omega, by omega, zC, rfl, rfl⟩))⟩ | exact ⟨_, _, _, Or.inr (Or.inr (Or.inr (Or.inl ⟨by omega, by omega, zW, rfl⟩)))⟩ | exact ⟨_, _, _, Or.inr (Or.inr (Or.inr (Or.inr (Or.inl ⟨by omega, by omega, zJ, fun q => absurd q (by omega), rfl⟩))))⟩ | exact ⟨_, _, _, Or.inr (Or.inr (Or.inr (Or.inr (Or.inr (Or.inl ⟨by omega, by omega, zS, rfl, rfl⟩)))))⟩ | exact ⟨0, 0, 0, Or.inr (Or.inl ⟨by omega, by omega, by omega⟩)⟩ | exact ⟨0, 0, 0, Or.inr (Or.inr (Or.inr (Or.inr (Or.inr (Or.inr ⟨by omega, by omega, by omega, by omega, by omega, by omega⟩)))))⟩ | (exfalso; omega) | omega) (by first | exact Lo_h1035 | exact ⟨st.1, st.2.1, st.2.2.2.2⟩ | exact Or.inl ⟨by omega, zF, st.2.2.1, st.2.2.2.1⟩ | exact Or.inr (Or.inr (Or.inl ⟨by omega, by omega, zC, st.2.2.1, st.2.2.2.1⟩)) | exact Or.inr (Or.inr (Or.inr (Or.inl ⟨by omega, by omega, zW, st.2.2.2.1⟩))) | exact Or.inr (Or.inr (Or.inr (Or.inr (Or.inl ⟨by omega, by omega, zJ, fun _ => st.2.2.1, st.2.2.2.1⟩)))) | exact Or.inr (Or.inr (Or.inr (Or.inr (Or.inr (Or.inl ⟨by omega, by omega, zS, st.2.2.1, st.2.2.2.1⟩))))) | exact ⟨_, _, _, Or.inl ⟨by omega, zF, rfl, rfl⟩⟩ | exact ⟨_, _, _, Or.inr (Or.inr (Or.inl ⟨by omega, by omega, zC, rfl, rfl⟩))⟩ | exact ⟨_, _, _, Or.inr (Or.inr (Or.inr (Or.inl ⟨by omega, by omega, zW, rfl⟩)))⟩ | exact ⟨_, _, _, Or.inr (Or.inr (Or.inr (Or.inr (Or.inl ⟨by omega, by omega, zJ, fun q => absurd q (by omega), rfl⟩))))⟩ | exact ⟨_, _, _, Or.inr (Or.inr (Or.inr (Or.inr (Or.inr (Or.inl ⟨by omega, by omega, zS, rfl, rfl⟩)))))⟩ | exact ⟨0, 0, 0, Or.inr (Or.inl ⟨by omega, by omega, by omega⟩)⟩ | exact ⟨0, 0, 0, Or.inr (Or.inr (Or.inr (Or.inr (Or.inr (Or.inr ⟨by omega, by omega, by omega, by omega, by omega, by omega⟩)))))⟩ | (exfalso; omega) | omega) Ln_h1035 Sp_h1035 Al_h1035t1038 Cu_h1035t1039)
        ·
          show wp l rho (d + 7) 49 27 [(2, 82), (0, 1), (0, 0), (0, 1), (9, 0), (9, 0)] [(0, 1)] h Q
          rw [show wc ((7 : Nat) : Int) = 527412 from by decide] at xp980
          refine w_istore (ls' := [(2, 82), (0, 1), (0, 0), (0, 1), (0, 1), (9, 0)]) gz_49_27 gm_49 rfl rfl rfl ?_
          refine w_aload_n gz_49_29 rfl ?_
          refine w_ldcS gz_49_30 (by decide) ?_
          refine w_inv (k := 1) (as := [(3, ((8 : Nat) : Int))]) (r := []) (x := 82) (ls0 := [(2, 82), (3, ((8 : Nat) : Int)), (9, 0)]) gz_49_32 gm_41 rfl is_82 rd_5 rfl rfl rfl rfl rfl (c_Reader_isWord9_f0 (d := (d + 2)) (x1 := ((8 : Nat) : Int)) (by decide) (cf.trans (by omega)) n_Cu (fun w1046 xp1047 => ?_) (fun w1048 w1049 xp1050 => ?_))
          ·
            show wp l rho (d + 7) 49 35 [(2, 82), (0, 1), (0, 0), (0, 1), (0, 1), (9, 0)] [(0, 0)] h Q
            rw [show wc ((8 : Nat) : Int) = 26801 from by decide] at xp1047
            refine w_istore (ls' := [(2, 82), (0, 1), (0, 0), (0, 1), (0, 1), (0, 0)]) gz_49_35 gm_49 rfl rfl rfl ?_
            refine w_iload_n gz_49_37 rfl ?_
            refine w_ifne (t := 65) gz_49_38 rfl (fun u1051 => ?_) (fun u1051 => by exfalso; omega)
            refine w_iload_n gz_49_65 rfl ?_
            refine w_ifne (t := 87) gz_49_66 rfl (fun u1052 => ?_) (fun u1052 => by exfalso; omega)
            refine w_aload_n gz_49_87 rfl ?_
            refine w_inv (k := 2) (as := []) (r := []) (x := 82) (ls0 := [(2, 82), (9, 0), (9, 0)]) gz_49_88 gm_37 rfl is_82 rd_5 rfl rfl rfl rfl rfl (c_Reader_nextToken9_f0 (d := (d + 5))  (cf.trans (by omega)) n_Al (fun h1053 frh1053 w1054 w1055 w1056 xp1057 xp1058 Al_h1053t1059 Cu_h1053t1060 => ?_))
            have gh1053 : my_fr [(4, 4), (4, 5), (4, 6), (4, 7), (4, 8), (4, 9), (5, 5), (5, 6), (5, 7), (5, 8), (5, 9), (32, -1), (33, -1), (34, -1), (35, -1), (36, -1), (37, -1), (38, -1), (39, -1)] h h1053 := my_fr.tr my_fr.rf (frh1053.mo rfl)
            have Ln_h1053 : Ln h1053 := Ln_ag (my_ag.fr frh1053 rfl) n_Ln
            have Sp_h1053 : Sp h1053 wv := Sp_ag (my_ag.fr frh1053 rfl) hwv n_Ln n_Sp
            have Lo_h1053 : Lo h h1053 := Lo_ag (my_ag.fr frh1053 rfl) n_Ln (Lo_rf)
            show wp l rho (d + 7) 49 91 [(2, 82), (0, 1), (0, 0), (0, 1), (0, 1), (0, 0)] [] h1053 Q
            have xc1061 := xp1057 n_Cu
            have ck1062 := Cu_s Cu_h1053t1060
            rw [show cs h1053 = cs h from cs_eq (fun j => my_fr.at gh1053 is_92 rfl) (my_fr.at gh1053 is_82 rfl)] at ck1062
            rw [show h1053 82 7 = (sN (cs h) (h 82 7)) from xc1061] at ck1062
            refine w_iload_n gz_49_91 rfl ?_
            refine w_ifeq (t := 102) gz_49_92 rfl (fun u1063 => by exfalso; omega) (fun u1063 => ?_)
            refine w_aload_n gz_49_95 rfl ?_
            refine w_inv (k := 2) (as := []) (r := []) (x := 82) (ls0 := [(2, 82), (9, 0), (9, 0)]) gz_49_96 gm_50 rfl is_82 rd_5 rfl rfl rfl rfl rfl (c_Reader_readFill9_f0 (d := (d + 3))  (((my_fr.at frh1053 is_82 rfl).trans cf).trans (by omega)) Al_h1053t1059 Cu_h1053t1060 (fun h1064 frh1064 w1065 w1066 xp1067 Al_h1064t1068 Cu_h1064t1069 => ?_) (fun h1070 frh1070 w1071 xp1072 Al_h1070t1073 Cu_h1070t1074 => ?_))
            ·
              have gh1064 : my_fr [(4, 4), (4, 5), (4, 6), (4, 7), (4, 8), (4, 9), (5, 5), (5, 6), (5, 7), (5, 8), (5, 9), (32, -1), (33, -1), (34, -1), (35, -1), (36, -1), (37, -1), (38, -1), (39, -1)] h h1064 := my_fr.tr gh1053 (frh1064.mo rfl)
              have Ln_h1064 : Ln h1064 := Ln_ag (my_ag.fr frh1064 rfl) Ln_h1053
              have Sp_h1064 : Sp h1064 wv := Sp_ag (my_ag.fr frh1064 rfl) hwv Ln_h1053 Sp_h1053
              have Lo_h1064 : Lo h h1064 := Lo_ag (my_ag.fr frh1064 rfl) Ln_h1053 Lo_h1053
              show wp l rho (d + 7) 49 99 [(2, 82), (0, 1), (0, 0), (0, 1), (0, 1), (0, 0)] [] h1064 Q
              have tE1075 : cs h1053 = cs h := cs_eq (fun j => my_fr.at gh1053 is_92 rfl) (my_fr.at gh1053 is_82 rfl)
              rw [tE1075] at xp1067
              have ps1076 : h1053 82 7 = (sN (cs h) (h 82 7)) := xc1061
              rw [ps1076] at xp1067
              have q2 : h1053 82 2 = h 82 2 := my_fr.at frh1053 is_82 rfl
              have q11 : h1053 (h 82 2) 1 = h (h 82 2) 1 := my_fr.at frh1053 n_Ln.2.2.2.1 rfl
              have q13 : h1053 (h 82 2) 3 = h (h 82 2) 3 := my_fr.at frh1053 n_Ln.2.2.2.1 rfl
              have q14 : h1053 (h 82 2) 4 = h (h 82 2) 4 := my_fr.at frh1053 n_Ln.2.2.2.1 rfl
              have q19 : h1053 (h 82 2) 9 = h (h 82 2) 9 := my_fr.at frh1053 n_Ln.2.2.2.1 rfl
              have qc : h1053 2 = h 2 := funext (fun j => my_fr.at frh1053 is_2 rfl)
              have zF := xp1067
              simp only [q2, q11, q13, q14, q19, qc] at zF
              have st : h1064 82 2 = h 82 2 ∧ h1064 (h 82 2) 3 = h (h 82 2) 3 ∧ h1064 (h 82 2) 4 = h (h 82 2) 4 ∧ h1064 (h 82 2) 9 = h (h 82 2) 9 ∧ h1064 (h 82 2) 1 = h (h 82 2) 1 := ⟨(my_fr.at frh1064 is_82 rfl).trans q2, (my_fr.at frh1064 n_Ln.2.2.2.1 rfl).trans q13, (my_fr.at frh1064 n_Ln.2.2.2.1 rfl).trans q14, (my_fr.at frh1064 n_Ln.2.2.2.1 rfl).trans q19, (my_fr.at frh1064 n_Ln.2.2.2.1 rfl).trans q11⟩
              refine w_goto (t := 140) gz_49_99 rfl ?_
              have psR : h1064 82 7 = h1064 82 7 := (rfl : h1064 82 7 = h1064 82 7)
              have npsR : cs h1064 = cs h := cs_eq (fun j => my_fr.at gh1064 is_92 rfl) (my_fr.at gh1064 is_82 rfl)
              have c1077 := (rfl : h1064 82 9 = h1064 82 9)
              exact w_vret gz_49_140 gm_49 (k0 h1064 (gh1064) (by omega) (by omega) (by first | exact Lo_h1064 | exact ⟨st.1, st.2.1, st.2.2.2.2⟩ | exact Or.inl ⟨by omega, zF, st.2.2.1, st.2.2.2.1⟩ | exact Or.inr (Or.inr (Or.inl ⟨by omega, by omega, zC, st.2.2.1, st.2.2.2.1⟩)) | exact Or.inr (Or.inr (Or.inr (Or.inl ⟨by omega, by omega, zW, st.2.2.2.1⟩))) | exact Or.inr (Or.inr (Or.inr (Or.inr (Or.inl ⟨by omega, by omega, zJ, fun _ => st.2.2.1, st.2.2.2.1⟩)))) | exact Or.inr (Or.inr (Or.inr (Or.inr (Or.inr (Or.inl ⟨by omega, by omega, zS, st.2.2.1, st.2.2.2.1⟩))))) | exact ⟨_, _, _, Or.inl ⟨by omega, zF, rfl, rfl⟩⟩ | exact ⟨_, _, _, Or.inr (Or.inr (Or.inl ⟨by omega, by omega, zC, rfl, rfl⟩))⟩ | exact ⟨_, _, _, Or.inr (Or.inr (Or.inr (Or.inl ⟨by omega, by omega, zW, rfl⟩)))⟩ | exact ⟨_, _, _, Or.inr (Or.inr (Or.inr (Or.inr (Or.inl ⟨by omega, by omega, zJ, fun q => absurd q (by omega), rfl⟩))))⟩ | exact ⟨_, _, _, Or.inr (Or.inr (Or.inr (Or.inr (Or.inr (Or.inl ⟨by omega, by omega, zS, rfl, rfl⟩)))))⟩ | exact ⟨0, 0, 0, Or.inr (Or.inl ⟨by omega, by omega, by omega⟩)⟩ | exact ⟨0, 0, 0, Or.inr (Or.inr (Or.inr (Or.inr (Or.inr (Or.inr ⟨by omega, by omega, by omega, by omega, by omega, by omega⟩)))))⟩ | (exfalso; omega) | omega) (by first | exact Lo_h1064 | exact ⟨st.1, st.2.1, st.2.2.2.2⟩ | exact Or.inl ⟨by omega, zF, st.2.2.1, st.2.2.2.1⟩ | exact Or.inr (Or.inr (Or.inl ⟨by omega, by omega, zC, st.2.2.1, st.2.2.2.1⟩)) | exact Or.inr (Or.inr (Or.inr (Or.inl ⟨by omega, by omega, zW, st.2.2.2.1⟩))) | exact Or.inr (Or.inr (Or.inr (Or.inr (Or.inl ⟨by omega, by omega, zJ, fun _ => st.2.2.1, st.2.2.2.1⟩)))) | exact Or.inr (Or.inr (Or.inr (Or.inr (Or.inr (Or.inl ⟨by omega, by omega, zS, st.2.2.1, st.2.2.2.1⟩))))) | exact ⟨_, _, _, Or.inl ⟨by omega, zF, rfl, rfl⟩⟩ | exact ⟨_, _, _, Or.inr (Or.inr (Or.inl ⟨by omega, by omega, zC, rfl, rfl⟩))⟩ | exact ⟨_, _, _, Or.inr (Or.inr (Or.inr (Or.inl ⟨by omega, by omega, zW, rfl⟩)))⟩ | exact ⟨_, _, _, Or.inr (Or.inr (Or.inr (Or.inr (Or.inl ⟨by omega, by omega, zJ, fun q => absurd q (by omega), rfl⟩))))⟩ | exact ⟨_, _, _, Or.inr (Or.inr (Or.inr (Or.inr (Or.inr (Or.inl ⟨by omega, by omega, zS, rfl, rfl⟩)))))⟩ | exact ⟨0, 0, 0, Or.inr (Or.inl ⟨by omega, by omega, by omega⟩)⟩ | exact ⟨0, 0, 0, Or.inr (Or.inr (Or.inr (Or.inr (Or.inr (Or.inr ⟨by omega, by omega, by omega, by omega, by omega, by omega⟩)))))⟩ | (exfalso; omega) | omega) Ln_h1064 Sp_h1064 Al_h1064t1068 Cu_h1064t1069)
            ·
              have gh1070 : my_fr [(4, 4), (4, 5), (4, 6), (4, 7), (4, 8), (4, 9), (5, 5), (5, 6), (5, 7), (5, 8), (5, 9), (32, -1), (33, -1), (34, -1), (35, -1), (36, -1), (37, -1), (38, -1), (39, -1)] h h1070 := my_fr.tr gh1053 (frh1070.mo rfl)
              have Ln_h1070 : Ln h1070 := Ln_ag (my_ag.fr frh1070 rfl) Ln_h1053
              have Sp_h1070 : Sp h1070 wv := Sp_ag (my_ag.fr frh1070 rfl) hwv Ln_h1053 Sp_h1053
              have Lo_h1070 : Lo h h1070 := Lo_ag (my_ag.fr frh1070 rfl) Ln_h1053 Lo_h1053
              show wp l rho (d + 7) 49 99 [(2, 82), (0, 1), (0, 0), (0, 1), (0, 1), (0, 0)] [] h1070 Q
              have tE1078 : cs h1053 = cs h := cs_eq (fun j => my_fr.at gh1053 is_92 rfl) (my_fr.at gh1053 is_82 rfl)
              rw [tE1078] at xp1072
              have ps1079 : h1053 82 7 = (sN (cs h) (h 82 7)) := xc1061
              rw [ps1079] at xp1072
              have q2 : h1053 82 2 = h 82 2 := my_fr.at frh1053 is_82 rfl
              have q11 : h1053 (h 82 2) 1 = h (h 82 2) 1 := my_fr.at frh1053 n_Ln.2.2.2.1 rfl
              have q13 : h1053 (h 82 2) 3 = h (h 82 2) 3 := my_fr.at frh1053 n_Ln.2.2.2.1 rfl
              have q14 : h1053 (h 82 2) 4 = h (h 82 2) 4 := my_fr.at frh1053 n_Ln.2.2.2.1 rfl
              have q19 : h1053 (h 82 2) 9 = h (h 82 2) 9 := my_fr.at frh1053 n_Ln.2.2.2.1 rfl
              have qc : h1053 2 = h 2 := funext (fun j => my_fr.at frh1053 is_2 rfl)
              have zF := xp1072
              simp only [q2, q11, q13, q14, q19, qc] at zF
              have st : h1070 82 2 = h 82 2 ∧ h1070 (h 82 2) 3 = h (h 82 2) 3 ∧ h1070 (h 82 2) 4 = h (h 82 2) 4 ∧ h1070 (h 82 2) 9 = h (h 82 2) 9 ∧ h1070 (h 82 2) 1 = h (h 82 2) 1 := ⟨(my_fr.at frh1070 is_82 rfl).trans q2, (my_fr.at frh1070 n_Ln.2.2.2.1 rfl).trans q13, (my_fr.at frh1070 n_Ln.2.2.2.1 rfl).trans q14, (my_fr.at frh1070 n_Ln.2.2.2.1 rfl).trans q19, (my_fr.at frh1070 n_Ln.2.2.2.1 rfl).trans q11⟩
              refine w_goto (t := 140) gz_49_99 rfl ?_
              have psR : h1070 82 7 = h1070 82 7 := (rfl : h1070 82 7 = h1070 82 7)
              have npsR : cs h1070 = cs h := cs_eq (fun j => my_fr.at gh1070 is_92 rfl) (my_fr.at gh1070 is_82 rfl)
              have c1080 := w1071
              exact w_vret gz_49_140 gm_49 (k1 h1070 (gh1070) (by omega) (by first | exact Lo_h1070 | exact ⟨st.1, st.2.1, st.2.2.2.2⟩ | exact Or.inl ⟨by omega, zF, st.2.2.1, st.2.2.2.1⟩ | exact Or.inr (Or.inr (Or.inl ⟨by omega, by omega, zC, st.2.2.1, st.2.2.2.1⟩)) | exact Or.inr (Or.inr (Or.inr (Or.inl ⟨by omega, by omega, zW, st.2.2.2.1⟩))) | exact Or.inr (Or.inr (Or.inr (Or.inr (Or.inl ⟨by omega, by omega, zJ, fun _ => st.2.2.1, st.2.2.2.1⟩)))) | exact Or.inr (Or.inr (Or.inr (Or.inr (Or.inr (Or.inl ⟨by omega, by omega, zS, st.2.2.1, st.2.2.2.1⟩))))) | exact ⟨_, _, _, Or.inl ⟨by omega, zF, rfl, rfl⟩⟩ | exact ⟨_, _, _, Or.inr (Or.inr (Or.inl ⟨by omega, by omega, zC, rfl, rfl⟩))⟩ | exact ⟨_, _, _, Or.inr (Or.inr (Or.inr (Or.inl ⟨by omega, by omega, zW, rfl⟩)))⟩ | exact ⟨_, _, _, Or.inr (Or.inr (Or.inr (Or.inr (Or.inl ⟨by omega, by omega, zJ, fun q => absurd q (by omega), rfl⟩))))⟩ | exact ⟨_, _, _, Or.inr (Or.inr (Or.inr (Or.inr (Or.inr (Or.inl ⟨by omega, by omega, zS, rfl, rfl⟩)))))⟩ | exact ⟨0, 0, 0, Or.inr (Or.inl ⟨by omega, by omega, by omega⟩)⟩ | exact ⟨0, 0, 0, Or.inr (Or.inr (Or.inr (Or.inr (Or.inr (Or.inr ⟨by omega, by omega, by omega, by omega, by omega, by omega⟩)))))⟩ | (exfalso; omega) | omega) (by first | exact Lo_h1070 | exact ⟨st.1, st.2.1, st.2.2.2.2⟩ | exact Or.inl ⟨by omega, zF, st.2.2.1, st.2.2.2.1⟩ | exact Or.inr (Or.inr (Or.inl ⟨by omega, by omega, zC, st.2.2.1, st.2.2.2.1⟩)) | exact Or.inr (Or.inr (Or.inr (Or.inl ⟨by omega, by omega, zW, st.2.2.2.1⟩))) | exact Or.inr (Or.inr (Or.inr (Or.inr (Or.inl ⟨by omega, by omega, zJ, fun _ => st.2.2.1, st.2.2.2.1⟩)))) | exact Or.inr (Or.inr (Or.inr (Or.inr (Or.inr (Or.inl ⟨by omega, by omega, zS, st.2.2.1, st.2.2.2.1⟩))))) | exact ⟨_, _, _, Or.inl ⟨by omega, zF, rfl, rfl⟩⟩ | exact ⟨_, _, _, Or.inr (Or.inr (Or.inl ⟨by omega, by omega, zC, rfl, rfl⟩))⟩ | exact ⟨_, _, _, Or.inr (Or.inr (Or.inr (Or.inl ⟨by omega, by omega, zW, rfl⟩)))⟩ | exact ⟨_, _, _, Or.inr (Or.inr (Or.inr (Or.inr (Or.inl ⟨by omega, by omega, zJ, fun q => absurd q (by omega), rfl⟩))))⟩ | exact ⟨_, _, _, Or.inr (Or.inr (Or.inr (Or.inr (Or.inr (Or.inl ⟨by omega, by omega, zS, rfl, rfl⟩)))))⟩ | exact ⟨0, 0, 0, Or.inr (Or.inl ⟨by omega, by omega, by omega⟩)⟩ | exact ⟨0, 0, 0, Or.inr (Or.inr (Or.inr (Or.inr (Or.inr (Or.inr ⟨by omega, by omega, by omega, by omega, by omega, by omega⟩)))))⟩ | (exfalso; omega) | omega) (by first | exact Lo_h1070 | exact ⟨st.1, st.2.1, st.2.2.2.2⟩ | exact Or.inl ⟨by omega, zF, st.2.2.1, st.2.2.2.1⟩ | exact Or.inr (Or.inr (Or.inl ⟨by omega, by omega, zC, st.2.2.1, st.2.2.2.1⟩)) | exact Or.inr (Or.inr (Or.inr (Or.inl ⟨by omega, by omega, zW, st.2.2.2.1⟩))) | exact Or.inr (Or.inr (Or.inr (Or.inr (Or.inl ⟨by omega, by omega, zJ, fun _ => st.2.2.1, st.2.2.2.1⟩)))) | exact Or.inr (Or.inr (Or.inr (Or.inr (Or.inr (Or.inl ⟨by omega, by omega, zS, st.2.2.1, st.2.2.2.1⟩))))) | exact ⟨_, _, _, Or.inl ⟨by omega, zF, rfl, rfl⟩⟩ | exact ⟨_, _, _, Or.inr (Or.inr (Or.inl ⟨by omega, by omega, zC, rfl, rfl⟩))⟩ | exact ⟨_, _, _, Or.inr (Or.inr (Or.inr (Or.inl ⟨by omega, by omega, zW, rfl⟩)))⟩ | exact ⟨_, _, _, Or.inr (Or.inr (Or.inr (Or.inr (Or.inl ⟨by omega, by omega, zJ, fun q => absurd q (by omega), rfl⟩))))⟩ | exact ⟨_, _, _, Or.inr (Or.inr (Or.inr (Or.inr (Or.inr (Or.inl ⟨by omega, by omega, zS, rfl, rfl⟩)))))⟩ | exact ⟨0, 0, 0, Or.inr (Or.inl ⟨by omega, by omega, by omega⟩)⟩ | exact ⟨0, 0, 0, Or.inr (Or.inr (Or.inr (Or.inr (Or.inr (Or.inr ⟨by omega, by omega, by omega, by omega, by omega, by omega⟩)))))⟩ | (exfalso; omega) | omega) Ln_h1070 Sp_h1070 Al_h1070t1073 Cu_h1070t1074)
          ·
            show wp l rho (d + 7) 49 35 [(2, 82), (0, 1), (0, 0), (0, 1), (0, 1), (9, 0)] [(0, 1)] h Q
            rw [show wc ((8 : Nat) : Int) = 26801 from by decide] at xp1050
            refine w_istore (ls' := [(2, 82), (0, 1), (0, 0), (0, 1), (0, 1), (0, 1)]) gz_49_35 gm_49 rfl rfl rfl ?_
            refine w_iload_n gz_49_37 rfl ?_
            refine w_ifne (t := 65) gz_49_38 rfl (fun u1081 => ?_) (fun u1081 => by exfalso; omega)
            refine w_iload_n gz_49_65 rfl ?_
            refine w_ifne (t := 87) gz_49_66 rfl (fun u1082 => ?_) (fun u1082 => by exfalso; omega)
            refine w_aload_n gz_49_87 rfl ?_
            refine w_inv (k := 2) (as := []) (r := []) (x := 82) (ls0 := [(2, 82), (9, 0), (9, 0)]) gz_49_88 gm_37 rfl is_82 rd_5 rfl rfl rfl rfl rfl (c_Reader_nextToken9_f0 (d := (d + 5))  (cf.trans (by omega)) n_Al (fun h1083 frh1083 w1084 w1085 w1086 xp1087 xp1088 Al_h1083t1089 Cu_h1083t1090 => ?_))
            have gh1083 : my_fr [(4, 4), (4, 5), (4, 6), (4, 7), (4, 8), (4, 9), (5, 5), (5, 6), (5, 7), (5, 8), (5, 9), (32, -1), (33, -1), (34, -1), (35, -1), (36, -1), (37, -1), (38, -1), (39, -1)] h h1083 := my_fr.tr my_fr.rf (frh1083.mo rfl)
            have Ln_h1083 : Ln h1083 := Ln_ag (my_ag.fr frh1083 rfl) n_Ln
            have Sp_h1083 : Sp h1083 wv := Sp_ag (my_ag.fr frh1083 rfl) hwv n_Ln n_Sp
            have Lo_h1083 : Lo h h1083 := Lo_ag (my_ag.fr frh1083 rfl) n_Ln (Lo_rf)
            show wp l rho (d + 7) 49 91 [(2, 82), (0, 1), (0, 0), (0, 1), (0, 1), (0, 1)] [] h1083 Q
            have xc1091 := xp1087 n_Cu
            have ck1092 := Cu_s Cu_h1083t1090
            rw [show cs h1083 = cs h from cs_eq (fun j => my_fr.at gh1083 is_92 rfl) (my_fr.at gh1083 is_82 rfl)] at ck1092
            rw [show h1083 82 7 = (sN (cs h) (h 82 7)) from xc1091] at ck1092
            refine w_iload_n gz_49_91 rfl ?_
            refine w_ifeq (t := 102) gz_49_92 rfl (fun u1093 => by exfalso; omega) (fun u1093 => ?_)
            refine w_aload_n gz_49_95 rfl ?_
            refine w_inv (k := 2) (as := []) (r := []) (x := 82) (ls0 := [(2, 82), (9, 0), (9, 0)]) gz_49_96 gm_50 rfl is_82 rd_5 rfl rfl rfl rfl rfl (c_Reader_readFill9_f0 (d := (d + 3))  (((my_fr.at frh1083 is_82 rfl).trans cf).trans (by omega)) Al_h1083t1089 Cu_h1083t1090 (fun h1094 frh1094 w1095 w1096 xp1097 Al_h1094t1098 Cu_h1094t1099 => ?_) (fun h1100 frh1100 w1101 xp1102 Al_h1100t1103 Cu_h1100t1104 => ?_))
            ·
              have gh1094 : my_fr [(4, 4), (4, 5), (4, 6), (4, 7), (4, 8), (4, 9), (5, 5), (5, 6), (5, 7), (5, 8), (5, 9), (32, -1), (33, -1), (34, -1), (35, -1), (36, -1), (37, -1), (38, -1), (39, -1)] h h1094 := my_fr.tr gh1083 (frh1094.mo rfl)
              have Ln_h1094 : Ln h1094 := Ln_ag (my_ag.fr frh1094 rfl) Ln_h1083
              have Sp_h1094 : Sp h1094 wv := Sp_ag (my_ag.fr frh1094 rfl) hwv Ln_h1083 Sp_h1083
              have Lo_h1094 : Lo h h1094 := Lo_ag (my_ag.fr frh1094 rfl) Ln_h1083 Lo_h1083
              show wp l rho (d + 7) 49 99 [(2, 82), (0, 1), (0, 0), (0, 1), (0, 1), (0, 1)] [] h1094 Q
              have tE1105 : cs h1083 = cs h := cs_eq (fun j => my_fr.at gh1083 is_92 rfl) (my_fr.at gh1083 is_82 rfl)
              rw [tE1105] at xp1097
              have ps1106 : h1083 82 7 = (sN (cs h) (h 82 7)) := xc1091
              rw [ps1106] at xp1097
              have q2 : h1083 82 2 = h 82 2 := my_fr.at frh1083 is_82 rfl
              have q11 : h1083 (h 82 2) 1 = h (h 82 2) 1 := my_fr.at frh1083 n_Ln.2.2.2.1 rfl
              have q13 : h1083 (h 82 2) 3 = h (h 82 2) 3 := my_fr.at frh1083 n_Ln.2.2.2.1 rfl
              have q14 : h1083 (h 82 2) 4 = h (h 82 2) 4 := my_fr.at frh1083 n_Ln.2.2.2.1 rfl
              have q19 : h1083 (h 82 2) 9 = h (h 82 2) 9 := my_fr.at frh1083 n_Ln.2.2.2.1 rfl
              have qc : h1083 2 = h 2 := funext (fun j => my_fr.at frh1083 is_2 rfl)
              have zF := xp1097
              simp only [q2, q11, q13, q14, q19, qc] at zF
              have st : h1094 82 2 = h 82 2 ∧ h1094 (h 82 2) 3 = h (h 82 2) 3 ∧ h1094 (h 82 2) 4 = h (h 82 2) 4 ∧ h1094 (h 82 2) 9 = h (h 82 2) 9 ∧ h1094 (h 82 2) 1 = h (h 82 2) 1 := ⟨(my_fr.at frh1094 is_82 rfl).trans q2, (my_fr.at frh1094 n_Ln.2.2.2.1 rfl).trans q13, (my_fr.at frh1094 n_Ln.2.2.2.1 rfl).trans q14, (my_fr.at frh1094 n_Ln.2.2.2.1 rfl).trans q19, (my_fr.at frh1094 n_Ln.2.2.2.1 rfl).trans q11⟩
              refine w_goto (t := 140) gz_49_99 rfl ?_
              have psR : h1094 82 7 = h1094 82 7 := (rfl : h1094 82 7 = h1094 82 7)
              have npsR : cs h1094 = cs h := cs_eq (fun j => my_fr.at gh1094 is_92 rfl) (my_fr.at gh1094 is_82 rfl)
              have c1107 := (rfl : h1094 82 9 = h1094 82 9)
              exact w_vret gz_49_140 gm_49 (k0 h1094 (gh1094) (by omega) (by omega) (by first | exact Lo_h1094 | exact ⟨st.1, st.2.1, st.2.2.2.2⟩ | exact Or.inl ⟨by omega, zF, st.2.2.1, st.2.2.2.1⟩ | exact Or.inr (Or.inr (Or.inl ⟨by omega, by omega, zC, st.2.2.1, st.2.2.2.1⟩)) | exact Or.inr (Or.inr (Or.inr (Or.inl ⟨by omega, by omega, zW, st.2.2.2.1⟩))) | exact Or.inr (Or.inr (Or.inr (Or.inr (Or.inl ⟨by omega, by omega, zJ, fun _ => st.2.2.1, st.2.2.2.1⟩)))) | exact Or.inr (Or.inr (Or.inr (Or.inr (Or.inr (Or.inl ⟨by omega, by omega, zS, st.2.2.1, st.2.2.2.1⟩))))) | exact ⟨_, _, _, Or.inl ⟨by omega, zF, rfl, rfl⟩⟩ | exact ⟨_, _, _, Or.inr (Or.inr (Or.inl ⟨by omega, by omega, zC, rfl, rfl⟩))⟩ | exact ⟨_, _, _, Or.inr (Or.inr (Or.inr (Or.inl ⟨by omega, by omega, zW, rfl⟩)))⟩ | exact ⟨_, _, _, Or.inr (Or.inr (Or.inr (Or.inr (Or.inl ⟨by omega, by omega, zJ, fun q => absurd q (by omega), rfl⟩))))⟩ | exact ⟨_, _, _, Or.inr (Or.inr (Or.inr (Or.inr (Or.inr (Or.inl ⟨by omega, by omega, zS, rfl, rfl⟩)))))⟩ | exact ⟨0, 0, 0, Or.inr (Or.inl ⟨by omega, by omega, by omega⟩)⟩ | exact ⟨0, 0, 0, Or.inr (Or.inr (Or.inr (Or.inr (Or.inr (Or.inr ⟨by omega, by omega, by omega, by omega, by omega, by omega⟩)))))⟩ | (exfalso; omega) | omega) (by first | exact Lo_h1094 | exact ⟨st.1, st.2.1, st.2.2.2.2⟩ | exact Or.inl ⟨by omega, zF, st.2.2.1, st.2.2.2.1⟩ | exact Or.inr (Or.inr (Or.inl ⟨by omega, by omega, zC, st.2.2.1, st.2.2.2.1⟩)) | exact Or.inr (Or.inr (Or.inr (Or.inl ⟨by omega, by omega, zW, st.2.2.2.1⟩))) | exact Or.inr (Or.inr (Or.inr (Or.inr (Or.inl ⟨by omega, by omega, zJ, fun _ => st.2.2.1, st.2.2.2.1⟩)))) | exact Or.inr (Or.inr (Or.inr (Or.inr (Or.inr (Or.inl ⟨by omega, by omega, zS, st.2.2.1, st.2.2.2.1⟩))))) | exact ⟨_, _, _, Or.inl ⟨by omega, zF, rfl, rfl⟩⟩ | exact ⟨_, _, _, Or.inr (Or.inr (Or.inl ⟨by omega, by omega, zC, rfl, rfl⟩))⟩ | exact ⟨_, _, _, Or.inr (Or.inr (Or.inr (Or.inl ⟨by omega, by omega, zW, rfl⟩)))⟩ | exact ⟨_, _, _, Or.inr (Or.inr (Or.inr (Or.inr (Or.inl ⟨by omega, by omega, zJ, fun q => absurd q (by omega), rfl⟩))))⟩ | exact ⟨_, _, _, Or.inr (Or.inr (Or.inr (Or.inr (Or.inr (Or.inl ⟨by omega, by omega, zS, rfl, rfl⟩)))))⟩ | exact ⟨0, 0, 0, Or.inr (Or.inl ⟨by omega, by omega, by omega⟩)⟩ | exact ⟨0, 0, 0, Or.inr (Or.inr (Or.inr (Or.inr (Or.inr (Or.inr ⟨by omega, by omega, by omega, by omega, by omega, by omega⟩)))))⟩ | (exfalso; omega) | omega) Ln_h1094 Sp_h1094 Al_h1094t1098 Cu_h1094t1099)
            ·
              have gh1100 : my_fr [(4, 4), (4, 5), (4, 6), (4, 7), (4, 8), (4, 9), (5, 5), (5, 6), (5, 7), (5, 8), (5, 9), (32, -1), (33, -1), (34, -1), (35, -1), (36, -1), (37, -1), (38, -1), (39, -1)] h h1100 := my_fr.tr gh1083 (frh1100.mo rfl)
              have Ln_h1100 : Ln h1100 := Ln_ag (my_ag.fr frh1100 rfl) Ln_h1083
              have Sp_h1100 : Sp h1100 wv := Sp_ag (my_ag.fr frh1100 rfl) hwv Ln_h1083 Sp_h1083
              have Lo_h1100 : Lo h h1100 := Lo_ag (my_ag.fr frh1100 rfl) Ln_h1083 Lo_h1083
              show wp l rho (d + 7) 49 99 [(2, 82), (0, 1), (0, 0), (0, 1), (0, 1), (0, 1)] [] h1100 Q
              have tE1108 : cs h1083 = cs h := cs_eq (fun j => my_fr.at gh1083 is_92 rfl) (my_fr.at gh1083 is_82 rfl)
              rw [tE1108] at xp1102
              have ps1109 : h1083 82 7 = (sN (cs h) (h 82 7)) := xc1091
              rw [ps1109] at xp1102
              have q2 : h1083 82 2 = h 82 2 := my_fr.at frh1083 is_82 rfl
              have q11 : h1083 (h 82 2) 1 = h (h 82 2) 1 := my_fr.at frh1083 n_Ln.2.2.2.1 rfl
              have q13 : h1083 (h 82 2) 3 = h (h 82 2) 3 := my_fr.at frh1083 n_Ln.2.2.2.1 rfl
              have q14 : h1083 (h 82 2) 4 = h (h 82 2) 4 := my_fr.at frh1083 n_Ln.2.2.2.1 rfl
              have q19 : h1083 (h 82 2) 9 = h (h 82 2) 9 := my_fr.at frh1083 n_Ln.2.2.2.1 rfl
              have qc : h1083 2 = h 2 := funext (fun j => my_fr.at frh1083 is_2 rfl)
              have zF := xp1102
              simp only [q2, q11, q13, q14, q19, qc] at zF
              have st : h1100 82 2 = h 82 2 ∧ h1100 (h 82 2) 3 = h (h 82 2) 3 ∧ h1100 (h 82 2) 4 = h (h 82 2) 4 ∧ h1100 (h 82 2) 9 = h (h 82 2) 9 ∧ h1100 (h 82 2) 1 = h (h 82 2) 1 := ⟨(my_fr.at frh1100 is_82 rfl).trans q2, (my_fr.at frh1100 n_Ln.2.2.2.1 rfl).trans q13, (my_fr.at frh1100 n_Ln.2.2.2.1 rfl).trans q14, (my_fr.at frh1100 n_Ln.2.2.2.1 rfl).trans q19, (my_fr.at frh1100 n_Ln.2.2.2.1 rfl).trans q11⟩
              refine w_goto (t := 140) gz_49_99 rfl ?_
              have psR : h1100 82 7 = h1100 82 7 := (rfl : h1100 82 7 = h1100 82 7)
              have npsR : cs h1100 = cs h := cs_eq (fun j => my_fr.at gh1100 is_92 rfl) (my_fr.at gh1100 is_82 rfl)
              have c1110 := w1101
              exact w_vret gz_49_140 gm_49 (k1 h1100 (gh1100) (by omega) (by first | exact Lo_h1100 | exact ⟨st.1, st.2.1, st.2.2.2.2⟩ | exact Or.inl ⟨by omega, zF, st.2.2.1, st.2.2.2.1⟩ | exact Or.inr (Or.inr (Or.inl ⟨by omega, by omega, zC, st.2.2.1, st.2.2.2.1⟩)) | exact Or.inr (Or.inr (Or.inr (Or.inl ⟨by omega, by omega, zW, st.2.2.2.1⟩))) | exact Or.inr (Or.inr (Or.inr (Or.inr (Or.inl ⟨by omega, by omega, zJ, fun _ => st.2.2.1, st.2.2.2.1⟩)))) | exact Or.inr (Or.inr (Or.inr (Or.inr (Or.inr (Or.inl ⟨by omega, by omega, zS, st.2.2.1, st.2.2.2.1⟩))))) | exact ⟨_, _, _, Or.inl ⟨by omega, zF, rfl, rfl⟩⟩ | exact ⟨_, _, _, Or.inr (Or.inr (Or.inl ⟨by omega, by omega, zC, rfl, rfl⟩))⟩ | exact ⟨_, _, _, Or.inr (Or.inr (Or.inr (Or.inl ⟨by omega, by omega, zW, rfl⟩)))⟩ | exact ⟨_, _, _, Or.inr (Or.inr (Or.inr (Or.inr (Or.inl ⟨by omega, by omega, zJ, fun q => absurd q (by omega), rfl⟩))))⟩ | exact ⟨_, _, _, Or.inr (Or.inr (Or.inr (Or.inr (Or.inr (Or.inl ⟨by omega, by omega, zS, rfl, rfl⟩)))))⟩ | exact ⟨0, 0, 0, Or.inr (Or.inl ⟨by omega, by omega, by omega⟩)⟩ | exact ⟨0, 0, 0, Or.inr (Or.inr (Or.inr (Or.inr (Or.inr (Or.inr ⟨by omega, by omega, by omega, by omega, by omega, by omega⟩)))))⟩ | (exfalso; omega) | omega) (by first | exact Lo_h1100 | exact ⟨st.1, st.2.1, st.2.2.2.2⟩ | exact Or.inl ⟨by omega, zF, st.2.2.1, st.2.2.2.1⟩ | exact Or.inr (Or.inr (Or.inl ⟨by omega, by omega, zC, st.2.2.1, st.2.2.2.1⟩)) | exact Or.inr (Or.inr (Or.inr (Or.inl ⟨by omega, by omega, zW, st.2.2.2.1⟩))) | exact Or.inr (Or.inr (Or.inr (Or.inr (Or.inl ⟨by omega, by omega, zJ, fun _ => st.2.2.1, st.2.2.2.1⟩)))) | exact Or.inr (Or.inr (Or.inr (Or.inr (Or.inr (Or.inl ⟨by omega, by omega, zS, st.2.2.1, st.2.2.2.1⟩))))) | exact ⟨_, _, _, Or.inl ⟨by omega, zF, rfl, rfl⟩⟩ | exact ⟨_, _, _, Or.inr (Or.inr (Or.inl ⟨by omega, by omega, zC, rfl, rfl⟩))⟩ | exact ⟨_, _, _, Or.inr (Or.inr (Or.inr (Or.inl ⟨by omega, by omega, zW, rfl⟩)))⟩ | exact ⟨_, _, _, Or.inr (Or.inr (Or.inr (Or.inr (Or.inl ⟨by omega, by omega, zJ, fun q => absurd q (by omega), rfl⟩))))⟩ | exact ⟨_, _, _, Or.inr (Or.inr (Or.inr (Or.inr (Or.inr (Or.inl ⟨by omega, by omega, zS, rfl, rfl⟩)))))⟩ | exact ⟨0, 0, 0, Or.inr (Or.inl ⟨by omega, by omega, by omega⟩)⟩ | exact ⟨0, 0, 0, Or.inr (Or.inr (Or.inr (Or.inr (Or.inr (Or.inr ⟨by omega, by omega, by omega, by omega, by omega, by omega⟩)))))⟩ | (exfalso; omega) | omega) (by first | exact Lo_h1100 | exact ⟨st.1, st.2.1, st.2.2.2.2⟩ | exact Or.inl ⟨by omega, zF, st.2.2.1, st.2.2.2.1⟩ | exact Or.inr (Or.inr (Or.inl ⟨by omega, by omega, zC, st.2.2.1, st.2.2.2.1⟩)) | exact Or.inr (Or.inr (Or.inr (Or.inl ⟨by omega, by omega, zW, st.2.2.2.1⟩))) | exact Or.inr (Or.inr (Or.inr (Or.inr (Or.inl ⟨by omega, by omega, zJ, fun _ => st.2.2.1, st.2.2.2.1⟩)))) | exact Or.inr (Or.inr (Or.inr (Or.inr (Or.inr (Or.inl ⟨by omega, by omega, zS, st.2.2.1, st.2.2.2.1⟩))))) | exact ⟨_, _, _, Or.inl ⟨by omega, zF, rfl, rfl⟩⟩ | exact ⟨_, _, _, Or.inr (Or.inr (Or.inl ⟨by omega, by omega, zC, rfl, rfl⟩))⟩ | exact ⟨_, _, _, Or.inr (Or.inr (Or.inr (Or.inl ⟨by omega, by omega, zW, rfl⟩)))⟩ | exact ⟨_, _, _, Or.inr (Or.inr (Or.inr (Or.inr (Or.inl ⟨by omega, by omega, zJ, fun q => absurd q (by omega), rfl⟩))))⟩ | exact ⟨_, _, _, Or.inr (Or.inr (Or.inr (Or.inr (Or.inr (Or.inl ⟨by omega, by omega, zS, rfl, rfl⟩)))))⟩ | exact ⟨0, 0, 0, Or.inr (Or.inl ⟨by omega, by omega, by omega⟩)⟩ | exact ⟨0, 0, 0, Or.inr (Or.inr (Or.inr (Or.inr (Or.inr (Or.inr ⟨by omega, by omega, by omega, by omega, by omega, by omega⟩)))))⟩ | (exfalso; omega) | omega) Ln_h1100 Sp_h1100 Al_h1100t1103 Cu_h1100t1104)
    ·
      show wp l rho (d + 7) 49 13 [(2, 82), (0, 1), (9, 0), (9, 0), (9, 0), (9, 0)] [(0, 1)] h Q
      rw [show wc ((5 : Nat) : Int) = 4904 from by decide] at xp835
      refine w_istore_n (ls' := [(2, 82), (0, 1), (0, 1), (9, 0), (9, 0), (9, 0)]) gz_49_13 gm_49 rfl rfl rfl ?_
      refine w_aload_n gz_49_14 rfl ?_
      refine w_ldcS gz_49_15 (by decide) ?_
      refine w_inv (k := 1) (as := [(3, ((6 : Nat) : Int))]) (r := []) (x := 82) (ls0 := [(2, 82), (3, ((6 : Nat) : Int)), (9, 0)]) gz_49_17 gm_41 rfl is_82 rd_5 rfl rfl rfl rfl rfl (c_Reader_isWord9_f0 (d := (d + 2)) (x1 := ((6 : Nat) : Int)) (by decide) (cf.trans (by omega)) n_Cu (fun w1111 xp1112 => ?_) (fun w1113 w1114 xp1115 => ?_))
      ·
        show wp l rho (d + 7) 49 20 [(2, 82), (0, 1), (0, 1), (9, 0), (9, 0), (9, 0)] [(0, 0)] h Q
        rw [show wc ((6 : Nat) : Int) = 8422 from by decide] at xp1112
        refine w_istore_n (ls' := [(2, 82), (0, 1), (0, 1), (0, 0), (9, 0), (9, 0)]) gz_49_20 gm_49 rfl rfl rfl ?_
        refine w_aload_n gz_49_21 rfl ?_
        refine w_ldcS gz_49_22 (by decide) ?_
        refine w_inv (k := 1) (as := [(3, ((7 : Nat) : Int))]) (r := []) (x := 82) (ls0 := [(2, 82), (3, ((7 : Nat) : Int)), (9, 0)]) gz_49_24 gm_41 rfl is_82 rd_5 rfl rfl rfl rfl rfl (c_Reader_isWord9_f0 (d := (d + 2)) (x1 := ((7 : Nat) : Int)) (by decide) (cf.trans (by omega)) n_Cu (fun w1116 xp1117 => ?_) (fun w1118 w1119 xp1120 => ?_))
        ·
          show wp l rho (d + 7) 49 27 [(2, 82), (0, 1), (0, 1), (0, 0), (9, 0), (9, 0)] [(0, 0)] h Q
          rw [show wc ((7 : Nat) : Int) = 527412 from by decide] at xp1117
          refine w_istore (ls' := [(2, 82), (0, 1), (0, 1), (0, 0), (0, 0), (9, 0)]) gz_49_27 gm_49 rfl rfl rfl ?_
          refine w_aload_n gz_49_29 rfl ?_
          refine w_ldcS gz_49_30 (by decide) ?_
          refine w_inv (k := 1) (as := [(3, ((8 : Nat) : Int))]) (r := []) (x := 82) (ls0 := [(2, 82), (3, ((8 : Nat) : Int)), (9, 0)]) gz_49_32 gm_41 rfl is_82 rd_5 rfl rfl rfl rfl rfl (c_Reader_isWord9_f0 (d := (d + 2)) (x1 := ((8 : Nat) : Int)) (by decide) (cf.trans (by omega)) n_Cu (fun w1121 xp1122 => ?_) (fun w1123 w1124 xp1125 => ?_))
          ·
            show wp l rho (d + 7) 49 35 [(2, 82), (0, 1), (0, 1), (0, 0), (0, 0), (9, 0)] [(0, 0)] h Q
            rw [show wc ((8 : Nat) : Int) = 26801 from by decide] at xp1122
            refine w_istore (ls' := [(2, 82), (0, 1), (0, 1), (0, 0), (0, 0), (0, 0)]) gz_49_35 gm_49 rfl rfl rfl ?_
            refine w_iload_n gz_49_37 rfl ?_
            refine w_ifne (t := 65) gz_49_38 rfl (fun u1126 => ?_) (fun u1126 => by exfalso; omega)
            refine w_iload_n gz_49_65 rfl ?_
            refine w_ifne (t := 87) gz_49_66 rfl (fun u1127 => ?_) (fun u1127 => by exfalso; omega)
            refine w_aload_n gz_49_87 rfl ?_
            refine w_inv (k := 2) (as := []) (r := []) (x := 82) (ls0 := [(2, 82), (9, 0), (9, 0)]) gz_49_88 gm_37 rfl is_82 rd_5 rfl rfl rfl rfl rfl (c_Reader_nextToken9_f0 (d := (d + 5))  (cf.trans (by omega)) n_Al (fun h1128 frh1128 w1129 w1130 w1131 xp1132 xp1133 Al_h1128t1134 Cu_h1128t1135 => ?_))
            have gh1128 : my_fr [(4, 4), (4, 5), (4, 6), (4, 7), (4, 8), (4, 9), (5, 5), (5, 6), (5, 7), (5, 8), (5, 9), (32, -1), (33, -1), (34, -1), (35, -1), (36, -1), (37, -1), (38, -1), (39, -1)] h h1128 := my_fr.tr my_fr.rf (frh1128.mo rfl)
            have Ln_h1128 : Ln h1128 := Ln_ag (my_ag.fr frh1128 rfl) n_Ln
            have Sp_h1128 : Sp h1128 wv := Sp_ag (my_ag.fr frh1128 rfl) hwv n_Ln n_Sp
            have Lo_h1128 : Lo h h1128 := Lo_ag (my_ag.fr frh1128 rfl) n_Ln (Lo_rf)
            show wp l rho (d + 7) 49 91 [(2, 82), (0, 1), (0, 1), (0, 0), (0, 0), (0, 0)] [] h1128 Q
            have xc1136 := xp1132 n_Cu
            have ck1137 := Cu_s Cu_h1128t1135
            rw [show cs h1128 = cs h from cs_eq (fun j => my_fr.at gh1128 is_92 rfl) (my_fr.at gh1128 is_82 rfl)] at ck1137
            rw [show h1128 82 7 = (sN (cs h) (h 82 7)) from xc1136] at ck1137
            refine w_iload_n gz_49_91 rfl ?_
            refine w_ifeq (t := 102) gz_49_92 rfl (fun u1138 => by exfalso; omega) (fun u1138 => ?_)
            refine w_aload_n gz_49_95 rfl ?_
            refine w_inv (k := 2) (as := []) (r := []) (x := 82) (ls0 := [(2, 82), (9, 0), (9, 0)]) gz_49_96 gm_50 rfl is_82 rd_5 rfl rfl rfl rfl rfl (c_Reader_readFill9_f0 (d := (d + 3))  (((my_fr.at frh1128 is_82 rfl).trans cf).trans (by omega)) Al_h1128t1134 Cu_h1128t1135 (fun h1139 frh1139 w1140 w1141 xp1142 Al_h1139t1143 Cu_h1139t1144 => ?_) (fun h1145 frh1145 w1146 xp1147 Al_h1145t1148 Cu_h1145t1149 => ?_))
            ·
              have gh1139 : my_fr [(4, 4), (4, 5), (4, 6), (4, 7), (4, 8), (4, 9), (5, 5), (5, 6), (5, 7), (5, 8), (5, 9), (32, -1), (33, -1), (34, -1), (35, -1), (36, -1), (37, -1), (38, -1), (39, -1)] h h1139 := my_fr.tr gh1128 (frh1139.mo rfl)
              have Ln_h1139 : Ln h1139 := Ln_ag (my_ag.fr frh1139 rfl) Ln_h1128
              have Sp_h1139 : Sp h1139 wv := Sp_ag (my_ag.fr frh1139 rfl) hwv Ln_h1128 Sp_h1128
              have Lo_h1139 : Lo h h1139 := Lo_ag (my_ag.fr frh1139 rfl) Ln_h1128 Lo_h1128
              show wp l rho (d + 7) 49 99 [(2, 82), (0, 1), (0, 1), (0, 0), (0, 0), (0, 0)] [] h1139 Q
              have tE1150 : cs h1128 = cs h := cs_eq (fun j => my_fr.at gh1128 is_92 rfl) (my_fr.at gh1128 is_82 rfl)
              rw [tE1150] at xp1142
              have ps1151 : h1128 82 7 = (sN (cs h) (h 82 7)) := xc1136
              rw [ps1151] at xp1142
              have q2 : h1128 82 2 = h 82 2 := my_fr.at frh1128 is_82 rfl
              have q11 : h1128 (h 82 2) 1 = h (h 82 2) 1 := my_fr.at frh1128 n_Ln.2.2.2.1 rfl
              have q13 : h1128 (h 82 2) 3 = h (h 82 2) 3 := my_fr.at frh1128 n_Ln.2.2.2.1 rfl
              have q14 : h1128 (h 82 2) 4 = h (h 82 2) 4 := my_fr.at frh1128 n_Ln.2.2.2.1 rfl
              have q19 : h1128 (h 82 2) 9 = h (h 82 2) 9 := my_fr.at frh1128 n_Ln.2.2.2.1 rfl
              have qc : h1128 2 = h 2 := funext (fun j => my_fr.at frh1128 is_2 rfl)
              have zF := xp1142
              simp only [q2, q11, q13, q14, q19, qc] at zF
              have st : h1139 82 2 = h 82 2 ∧ h1139 (h 82 2) 3 = h (h 82 2) 3 ∧ h1139 (h 82 2) 4 = h (h 82 2) 4 ∧ h1139 (h 82 2) 9 = h (h 82 2) 9 ∧ h1139 (h 82 2) 1 = h (h 82 2) 1 := ⟨(my_fr.at frh1139 is_82 rfl).trans q2, (my_fr.at frh1139 n_Ln.2.2.2.1 rfl).trans q13, (my_fr.at frh1139 n_Ln.2.2.2.1 rfl).trans q14, (my_fr.at frh1139 n_Ln.2.2.2.1 rfl).trans q19, (my_fr.at frh1139 n_Ln.2.2.2.1 rfl).trans q11⟩
              refine w_goto (t := 140) gz_49_99 rfl ?_
              have psR : h1139 82 7 = h1139 82 7 := (rfl : h1139 82 7 = h1139 82 7)
              have npsR : cs h1139 = cs h := cs_eq (fun j => my_fr.at gh1139 is_92 rfl) (my_fr.at gh1139 is_82 rfl)
              have c1152 := (rfl : h1139 82 9 = h1139 82 9)
              exact w_vret gz_49_140 gm_49 (k0 h1139 (gh1139) (by omega) (by omega) (by first | exact Lo_h1139 | exact ⟨st.1, st.2.1, st.2.2.2.2⟩ | exact Or.inl ⟨by omega, zF, st.2.2.1, st.2.2.2.1⟩ | exact Or.inr (Or.inr (Or.inl ⟨by omega, by omega, zC, st.2.2.1, st.2.2.2.1⟩)) | exact Or.inr (Or.inr (Or.inr (Or.inl ⟨by omega, by omega, zW, st.2.2.2.1⟩))) | exact Or.inr (Or.inr (Or.inr (Or.inr (Or.inl ⟨by omega, by omega, zJ, fun _ => st.2.2.1, st.2.2.2.1⟩)))) | exact Or.inr (Or.inr (Or.inr (Or.inr (Or.inr (Or.inl ⟨by omega, by omega, zS, st.2.2.1, st.2.2.2.1⟩))))) | exact ⟨_, _, _, Or.inl ⟨by omega, zF, rfl, rfl⟩⟩ | exact ⟨_, _, _, Or.inr (Or.inr (Or.inl ⟨by omega, by omega, zC, rfl, rfl⟩))⟩ | exact ⟨_, _, _, Or.inr (Or.inr (Or.inr (Or.inl ⟨by omega, by omega, zW, rfl⟩)))⟩ | exact ⟨_, _, _, Or.inr (Or.inr (Or.inr (Or.inr (Or.inl ⟨by omega, by omega, zJ, fun q => absurd q (by omega), rfl⟩))))⟩ | exact ⟨_, _, _, Or.inr (Or.inr (Or.inr (Or.inr (Or.inr (Or.inl ⟨by omega, by omega, zS, rfl, rfl⟩)))))⟩ | exact ⟨0, 0, 0, Or.inr (Or.inl ⟨by omega, by omega, by omega⟩)⟩ | exact ⟨0, 0, 0, Or.inr (Or.inr (Or.inr (Or.inr (Or.inr (Or.inr ⟨by omega, by omega, by omega, by omega, by omega, by omega⟩)))))⟩ | (exfalso; omega) | omega) (by first | exact Lo_h1139 | exact ⟨st.1, st.2.1, st.2.2.2.2⟩ | exact Or.inl ⟨by omega, zF, st.2.2.1, st.2.2.2.1⟩ | exact Or.inr (Or.inr (Or.inl ⟨by omega, by omega, zC, st.2.2.1, st.2.2.2.1⟩)) | exact Or.inr (Or.inr (Or.inr (Or.inl ⟨by omega, by omega, zW, st.2.2.2.1⟩))) | exact Or.inr (Or.inr (Or.inr (Or.inr (Or.inl ⟨by omega, by omega, zJ, fun _ => st.2.2.1, st.2.2.2.1⟩)))) | exact Or.inr (Or.inr (Or.inr (Or.inr (Or.inr (Or.inl ⟨by omega, by omega, zS, st.2.2.1, st.2.2.2.1⟩))))) | exact ⟨_, _, _, Or.inl ⟨by omega, zF, rfl, rfl⟩⟩ | exact ⟨_, _, _, Or.inr (Or.inr (Or.inl ⟨by omega, by omega, zC, rfl, rfl⟩))⟩ | exact ⟨_, _, _, Or.inr (Or.inr (Or.inr (Or.inl ⟨by omega, by omega, zW, rfl⟩)))⟩ | exact ⟨_, _, _, Or.inr (Or.inr (Or.inr (Or.inr (Or.inl ⟨by omega, by omega, zJ, fun q => absurd q (by omega), rfl⟩))))⟩ | exact ⟨_, _, _, Or.inr (Or.inr (Or.inr (Or.inr (Or.inr (Or.inl ⟨by omega, by omega, zS, rfl, rfl⟩)))))⟩ | exact ⟨0, 0, 0, Or.inr (Or.inl ⟨by omega, by omega, by omega⟩)⟩ | exact ⟨0, 0, 0, Or.inr (Or.inr (Or.inr (Or.inr (Or.inr (Or.inr ⟨by omega, by omega, by omega, by omega, by omega, by omega⟩)))))⟩ | (exfalso; omega) | omega) Ln_h1139 Sp_h1139 Al_h1139t1143 Cu_h1139t1144)
            ·
              have gh1145 : my_fr [(4, 4), (4, 5), (4, 6), (4, 7), (4, 8), (4, 9), (5, 5), (5, 6), (5, 7), (5, 8), (5, 9), (32, -1), (33, -1), (34, -1), (35, -1), (36, -1), (37, -1), (38, -1), (39, -1)] h h1145 := my_fr.tr gh1128 (frh1145.mo rfl)
              have Ln_h1145 : Ln h1145 := Ln_ag (my_ag.fr frh1145 rfl) Ln_h1128
              have Sp_h1145 : Sp h1145 wv := Sp_ag (my_ag.fr frh1145 rfl) hwv Ln_h1128 Sp_h1128
              have Lo_h1145 : Lo h h1145 := Lo_ag (my_ag.fr frh1145 rfl) Ln_h1128 Lo_h1128
              show wp l rho (d + 7) 49 99 [(2, 82), (0, 1), (0, 1), (0, 0), (0, 0), (0, 0)] [] h1145 Q
              have tE1153 : cs h1128 = cs h := cs_eq (fun j => my_fr.at gh1128 is_92 rfl) (my_fr.at gh1128 is_82 rfl)
              rw [tE1153] at xp1147
              have ps1154 : h1128 82 7 = (sN (cs h) (h 82 7)) := xc1136
              rw [ps1154] at xp1147
              have q2 : h1128 82 2 = h 82 2 := my_fr.at frh1128 is_82 rfl
              have q11 : h1128 (h 82 2) 1 = h (h 82 2) 1 := my_fr.at frh1128 n_Ln.2.2.2.1 rfl
              have q13 : h1128 (h 82 2) 3 = h (h 82 2) 3 := my_fr.at frh1128 n_Ln.2.2.2.1 rfl
              have q14 : h1128 (h 82 2) 4 = h (h 82 2) 4 := my_fr.at frh1128 n_Ln.2.2.2.1 rfl
              have q19 : h1128 (h 82 2) 9 = h (h 82 2) 9 := my_fr.at frh1128 n_Ln.2.2.2.1 rfl
              have qc : h1128 2 = h 2 := funext (fun j => my_fr.at frh1128 is_2 rfl)
              have zF := xp1147
              simp only [q2, q11, q13, q14, q19, qc] at zF
              have st : h1145 82 2 = h 82 2 ∧ h1145 (h 82 2) 3 = h (h 82 2) 3 ∧ h1145 (h 82 2) 4 = h (h 82 2) 4 ∧ h1145 (h 82 2) 9 = h (h 82 2) 9 ∧ h1145 (h 82 2) 1 = h (h 82 2) 1 := ⟨(my_fr.at frh1145 is_82 rfl).trans q2, (my_fr.at frh1145 n_Ln.2.2.2.1 rfl).trans q13, (my_fr.at frh1145 n_Ln.2.2.2.1 rfl).trans q14, (my_fr.at frh1145 n_Ln.2.2.2.1 rfl).trans q19, (my_fr.at frh1145 n_Ln.2.2.2.1 rfl).trans q11⟩
              refine w_goto (t := 140) gz_49_99 rfl ?_
              have psR : h1145 82 7 = h1145 82 7 := (rfl : h1145 82 7 = h1145 82 7)
              have npsR : cs h1145 = cs h := cs_eq (fun j => my_fr.at gh1145 is_92 rfl) (my_fr.at gh1145 is_82 rfl)
              have c1155 := w1146
              exact w_vret gz_49_140 gm_49 (k1 h1145 (gh1145) (by omega) (by first | exact Lo_h1145 | exact ⟨st.1, st.2.1, st.2.2.2.2⟩ | exact Or.inl ⟨by omega, zF, st.2.2.1, st.2.2.2.1⟩ | exact Or.inr (Or.inr (Or.inl ⟨by omega, by omega, zC, st.2.2.1, st.2.2.2.1⟩)) | exact Or.inr (Or.inr (Or.inr (Or.inl ⟨by omega, by omega, zW, st.2.2.2.1⟩))) | exact Or.inr (Or.inr (Or.inr (Or.inr (Or.inl ⟨by omega, by omega, zJ, fun _ => st.2.2.1, st.2.2.2.1⟩)))) | exact Or.inr (Or.inr (Or.inr (Or.inr (Or.inr (Or.inl ⟨by omega, by omega, zS, st.2.2.1, st.2.2.2.1⟩))))) | exact ⟨_, _, _, Or.inl ⟨by omega, zF, rfl, rfl⟩⟩ | exact ⟨_, _, _, Or.inr (Or.inr (Or.inl ⟨by omega, by omega, zC, rfl, rfl⟩))⟩ | exact ⟨_, _, _, Or.inr (Or.inr (Or.inr (Or.inl ⟨by omega, by omega, zW, rfl⟩)))⟩ | exact ⟨_, _, _, Or.inr (Or.inr (Or.inr (Or.inr (Or.inl ⟨by omega, by omega, zJ, fun q => absurd q (by omega), rfl⟩))))⟩ | exact ⟨_, _, _, Or.inr (Or.inr (Or.inr (Or.inr (Or.inr (Or.inl ⟨by omega, by omega, zS, rfl, rfl⟩)))))⟩ | exact ⟨0, 0, 0, Or.inr (Or.inl ⟨by omega, by omega, by omega⟩)⟩ | exact ⟨0, 0, 0, Or.inr (Or.inr (Or.inr (Or.inr (Or.inr (Or.inr ⟨by omega, by omega, by omega, by omega, by omega, by omega⟩)))))⟩ | (exfalso; omega) | omega) (by first | exact Lo_h1145 | exact ⟨st.1, st.2.1, st.2.2.2.2⟩ | exact Or.inl ⟨by omega, zF, st.2.2.1, st.2.2.2.1⟩ | exact Or.inr (Or.inr (Or.inl ⟨by omega, by omega, zC, st.2.2.1, st.2.2.2.1⟩)) | exact Or.inr (Or.inr (Or.inr (Or.inl ⟨by omega, by omega, zW, st.2.2.2.1⟩))) | exact Or.inr (Or.inr (Or.inr (Or.inr (Or.inl ⟨by omega, by omega, zJ, fun _ => st.2.2.1, st.2.2.2.1⟩)))) | exact Or.inr (Or.inr (Or.inr (Or.inr (Or.inr (Or.inl ⟨by omega, by omega, zS, st.2.2.1, st.2.2.2.1⟩))))) | exact ⟨_, _, _, Or.inl ⟨by omega, zF, rfl, rfl⟩⟩ | exact ⟨_, _, _, Or.inr (Or.inr (Or.inl ⟨by omega, by omega, zC, rfl, rfl⟩))⟩ | exact ⟨_, _, _, Or.inr (Or.inr (Or.inr (Or.inl ⟨by omega, by omega, zW, rfl⟩)))⟩ | exact ⟨_, _, _, Or.inr (Or.inr (Or.inr (Or.inr (Or.inl ⟨by omega, by omega, zJ, fun q => absurd q (by omega), rfl⟩))))⟩ | exact ⟨_, _, _, Or.inr (Or.inr (Or.inr (Or.inr (Or.inr (Or.inl ⟨by omega, by omega, zS, rfl, rfl⟩)))))⟩ | exact ⟨0, 0, 0, Or.inr (Or.inl ⟨by omega, by omega, by omega⟩)⟩ | exact ⟨0, 0, 0, Or.inr (Or.inr (Or.inr (Or.inr (Or.inr (Or.inr ⟨by omega, by omega, by omega, by omega, by omega, by omega⟩)))))⟩ | (exfalso; omega) | omega) (by first | exact Lo_h1145 | exact ⟨st.1, st.2.1, st.2.2.2.2⟩ | exact Or.inl ⟨by omega, zF, st.2.2.1, st.2.2.2.1⟩ | exact Or.inr (Or.inr (Or.inl ⟨by omega, by omega, zC, st.2.2.1, st.2.2.2.1⟩)) | exact Or.inr (Or.inr (Or.inr (Or.inl ⟨by omega, by omega, zW, st.2.2.2.1⟩))) | exact Or.inr (Or.inr (Or.inr (Or.inr (Or.inl ⟨by omega, by omega, zJ, fun _ => st.2.2.1, st.2.2.2.1⟩)))) | exact Or.inr (Or.inr (Or.inr (Or.inr (Or.inr (Or.inl ⟨by omega, by omega, zS, st.2.2.1, st.2.2.2.1⟩))))) | exact ⟨_, _, _, Or.inl ⟨by omega, zF, rfl, rfl⟩⟩ | exact ⟨_, _, _, Or.inr (Or.inr (Or.inl ⟨by omega, by omega, zC, rfl, rfl⟩))⟩ | exact ⟨_, _, _, Or.inr (Or.inr (Or.inr (Or.inl ⟨by omega, by omega, zW, rfl⟩)))⟩ | exact ⟨_, _, _, Or.inr (Or.inr (Or.inr (Or.inr (Or.inl ⟨by omega, by omega, zJ, fun q => absurd q (by omega), rfl⟩))))⟩ | exact ⟨_, _, _, Or.inr (Or.inr (Or.inr (Or.inr (Or.inr (Or.inl ⟨by omega, by omega, zS, rfl, rfl⟩)))))⟩ | exact ⟨0, 0, 0, Or.inr (Or.inl ⟨by omega, by omega, by omega⟩)⟩ | exact ⟨0, 0, 0, Or.inr (Or.inr (Or.inr (Or.inr (Or.inr (Or.inr ⟨by omega, by omega, by omega, by omega, by omega, by omega⟩)))))⟩ | (exfalso; omega) | omega) Ln_h1145 Sp_h1145 Al_h1145t1148 Cu_h1145t1149)
          ·
            show wp l rho (d + 7) 49 35 [(2, 82), (0, 1), (0, 1), (0, 0), (0, 0), (9, 0)] [(0, 1)] h Q
            rw [show wc ((8 : Nat) : Int) = 26801 from by decide] at xp1125
            refine w_istore (ls' := [(2, 82), (0, 1), (0, 1), (0, 0), (0, 0), (0, 1)]) gz_49_35 gm_49 rfl rfl rfl ?_
            refine w_iload_n gz_49_37 rfl ?_
            refine w_ifne (t := 65) gz_49_38 rfl (fun u1156 => ?_) (fun u1156 => by exfalso; omega)
            refine w_iload_n gz_49_65 rfl ?_
            refine w_ifne (t := 87) gz_49_66 rfl (fun u1157 => ?_) (fun u1157 => by exfalso; omega)
            refine w_aload_n gz_49_87 rfl ?_
            refine w_inv (k := 2) (as := []) (r := []) (x := 82) (ls0 := [(2, 82), (9, 0), (9, 0)]) gz_49_88 gm_37 rfl is_82 rd_5 rfl rfl rfl rfl rfl (c_Reader_nextToken9_f0 (d := (d + 5))  (cf.trans (by omega)) n_Al (fun h1158 frh1158 w1159 w1160 w1161 xp1162 xp1163 Al_h1158t1164 Cu_h1158t1165 => ?_))
            have gh1158 : my_fr [(4, 4), (4, 5), (4, 6), (4, 7), (4, 8), (4, 9), (5, 5), (5, 6), (5, 7), (5, 8), (5, 9), (32, -1), (33, -1), (34, -1), (35, -1), (36, -1), (37, -1), (38, -1), (39, -1)] h h1158 := my_fr.tr my_fr.rf (frh1158.mo rfl)
            have Ln_h1158 : Ln h1158 := Ln_ag (my_ag.fr frh1158 rfl) n_Ln
            have Sp_h1158 : Sp h1158 wv := Sp_ag (my_ag.fr frh1158 rfl) hwv n_Ln n_Sp
            have Lo_h1158 : Lo h h1158 := Lo_ag (my_ag.fr frh1158 rfl) n_Ln (Lo_rf)
            show wp l rho (d + 7) 49 91 [(2, 82), (0, 1), (0, 1), (0, 0), (0, 0), (0, 1)] [] h1158 Q
            have xc1166 := xp1162 n_Cu
            have ck1167 := Cu_s Cu_h1158t1165
            rw [show cs h1158 = cs h from cs_eq (fun j => my_fr.at gh1158 is_92 rfl) (my_fr.at gh1158 is_82 rfl)] at ck1167
            rw [show h1158 82 7 = (sN (cs h) (h 82 7)) from xc1166] at ck1167
            refine w_iload_n gz_49_91 rfl ?_
            refine w_ifeq (t := 102) gz_49_92 rfl (fun u1168 => by exfalso; omega) (fun u1168 => ?_)
            refine w_aload_n gz_49_95 rfl ?_
            refine w_inv (k := 2) (as := []) (r := []) (x := 82) (ls0 := [(2, 82), (9, 0), (9, 0)]) gz_49_96 gm_50 rfl is_82 rd_5 rfl rfl rfl rfl rfl (c_Reader_readFill9_f0 (d := (d + 3))  (((my_fr.at frh1158 is_82 rfl).trans cf).trans (by omega)) Al_h1158t1164 Cu_h1158t1165 (fun h1169 frh1169 w1170 w1171 xp1172 Al_h1169t1173 Cu_h1169t1174 => ?_) (fun h1175 frh1175 w1176 xp1177 Al_h1175t1178 Cu_h1175t1179 => ?_))
            ·
              have gh1169 : my_fr [(4, 4), (4, 5), (4, 6), (4, 7), (4, 8), (4, 9), (5, 5), (5, 6), (5, 7), (5, 8), (5, 9), (32, -1), (33, -1), (34, -1), (35, -1), (36, -1), (37, -1), (38, -1), (39, -1)] h h1169 := my_fr.tr gh1158 (frh1169.mo rfl)
              have Ln_h1169 : Ln h1169 := Ln_ag (my_ag.fr frh1169 rfl) Ln_h1158
              have Sp_h1169 : Sp h1169 wv := Sp_ag (my_ag.fr frh1169 rfl) hwv Ln_h1158 Sp_h1158
              have Lo_h1169 : Lo h h1169 := Lo_ag (my_ag.fr frh1169 rfl) Ln_h1158 Lo_h1158
              show wp l rho (d + 7) 49 99 [(2, 82), (0, 1), (0, 1), (0, 0), (0, 0), (0, 1)] [] h1169 Q
              have tE1180 : cs h1158 = cs h := cs_eq (fun j => my_fr.at gh1158 is_92 rfl) (my_fr.at gh1158 is_82 rfl)
              rw [tE1180] at xp1172
              have ps1181 : h1158 82 7 = (sN (cs h) (h 82 7)) := xc1166
              rw [ps1181] at xp1172
              have q2 : h1158 82 2 = h 82 2 := my_fr.at frh1158 is_82 rfl
              have q11 : h1158 (h 82 2) 1 = h (h 82 2) 1 := my_fr.at frh1158 n_Ln.2.2.2.1 rfl
              have q13 : h1158 (h 82 2) 3 = h (h 82 2) 3 := my_fr.at frh1158 n_Ln.2.2.2.1 rfl
              have q14 : h1158 (h 82 2) 4 = h (h 82 2) 4 := my_fr.at frh1158 n_Ln.2.2.2.1 rfl
              have q19 : h1158 (h 82 2) 9 = h (h 82 2) 9 := my_fr.at frh1158 n_Ln.2.2.2.1 rfl
              have qc : h1158 2 = h 2 := funext (fun j => my_fr.at frh1158 is_2 rfl)
              have zF := xp1172
              simp only [q2, q11, q13, q14, q19, qc] at zF
              have st : h1169 82 2 = h 82 2 ∧ h1169 (h 82 2) 3 = h (h 82 2) 3 ∧ h1169 (h 82 2) 4 = h (h 82 2) 4 ∧ h1169 (h 82 2) 9 = h (h 82 2) 9 ∧ h1169 (h 82 2) 1 = h (h 82 2) 1 := ⟨(my_fr.at frh1169 is_82 rfl).trans q2, (my_fr.at frh1169 n_Ln.2.2.2.1 rfl).trans q13, (my_fr.at frh1169 n_Ln.2.2.2.1 rfl).trans q14, (my_fr.at frh1169 n_Ln.2.2.2.1 rfl).trans q19, (my_fr.at frh1169 n_Ln.2.2.2.1 rfl).trans q11⟩
              refine w_goto (t := 140) gz_49_99 rfl ?_
              have psR : h1169 82 7 = h1169 82 7 := (rfl : h1169 82 7 = h1169 82 7)
              have npsR : cs h1169 = cs h := cs_eq (fun j => my_fr.at gh1169 is_92 rfl) (my_fr.at gh1169 is_82 rfl)
              have c1182 := (rfl : h1169 82 9 = h1169 82 9)
              exact w_vret gz_49_140 gm_49 (k0 h1169 (gh1169) (by omega) (by omega) (by first | exact Lo_h1169 | exact ⟨st.1, st.2.1, st.2.2.2.2⟩ | exact Or.inl ⟨by omega, zF, st.2.2.1, st.2.2.2.1⟩ | exact Or.inr (Or.inr (Or.inl ⟨by omega, by omega, zC, st.2.2.1, st.2.2.2.1⟩)) | exact Or.inr (Or.inr (Or.inr (Or.inl ⟨by omega, by omega, zW, st.2.2.2.1⟩))) | exact Or.inr (Or.inr (Or.inr (Or.inr (Or.inl ⟨by omega, by omega, zJ, fun _ => st.2.2.1, st.2.2.2.1⟩)))) | exact Or.inr (Or.inr (Or.inr (Or.inr (Or.inr (Or.inl ⟨by omega, by omega, zS, st.2.2.1, st.2.2.2.1⟩))))) | exact ⟨_, _, _, Or.inl ⟨by omega, zF, rfl, rfl⟩⟩ | exact ⟨_, _, _, Or.inr (Or.inr (Or.inl ⟨by omega, by omega, zC, rfl, rfl⟩))⟩ | exact ⟨_, _, _, Or.inr (Or.inr (Or.inr (Or.inl ⟨by omega, by omega, zW, rfl⟩)))⟩ | exact ⟨_, _, _, Or.inr (Or.inr (Or.inr (Or.inr (Or.inl ⟨by omega, by omega, zJ, fun q => absurd q (by omega), rfl⟩))))⟩ | exact ⟨_, _, _, Or.inr (Or.inr (Or.inr (Or.inr (Or.inr (Or.inl ⟨by omega, by omega, zS, rfl, rfl⟩)))))⟩ | exact ⟨0, 0, 0, Or.inr (Or.inl ⟨by omega, by omega, by omega⟩)⟩ | exact ⟨0, 0, 0, Or.inr (Or.inr (Or.inr (Or.inr (Or.inr (Or.inr ⟨by omega, by omega, by omega, by omega, by omega, by omega⟩)))))⟩ | (exfalso; omega) | omega) (by first | exact Lo_h1169 | exact ⟨st.1, st.2.1, st.2.2.2.2⟩ | exact Or.inl ⟨by omega, zF, st.2.2.1, st.2.2.2.1⟩ | exact Or.inr (Or.inr (Or.inl ⟨by omega, by omega, zC, st.2.2.1, st.2.2.2.1⟩)) | exact Or.inr (Or.inr (Or.inr (Or.inl ⟨by omega, by omega, zW, st.2.2.2.1⟩))) | exact Or.inr (Or.inr (Or.inr (Or.inr (Or.inl ⟨by omega, by omega, zJ, fun _ => st.2.2.1, st.2.2.2.1⟩)))) | exact Or.inr (Or.inr (Or.inr (Or.inr (Or.inr (Or.inl ⟨by omega, by omega, zS, st.2.2.1, st.2.2.2.1⟩))))) | exact ⟨_, _, _, Or.inl ⟨by omega, zF, rfl, rfl⟩⟩ | exact ⟨_, _, _, Or.inr (Or.inr (Or.inl ⟨by omega, by omega, zC, rfl, rfl⟩))⟩ | exact ⟨_, _, _, Or.inr (Or.inr (Or.inr (Or.inl ⟨by omega, by omega, zW, rfl⟩)))⟩ | exact ⟨_, _, _, Or.inr (Or.inr (Or.inr (Or.inr (Or.inl ⟨by omega, by omega, zJ, fun q => absurd q (by omega), rfl⟩))))⟩ | exact ⟨_, _, _, Or.inr (Or.inr (Or.inr (Or.inr (Or.inr (Or.inl ⟨by omega, by omega, zS, rfl, rfl⟩)))))⟩ | exact ⟨0, 0, 0, Or.inr (Or.inl ⟨by omega, by omega, by omega⟩)⟩ | exact ⟨0, 0, 0, Or.inr (Or.inr (Or.inr (Or.inr (Or.inr (Or.inr ⟨by omega, by omega, by omega, by omega, by omega, by omega⟩)))))⟩ | (exfalso; omega) | omega) Ln_h1169 Sp_h1169 Al_h1169t1173 Cu_h1169t1174)
            ·
              have gh1175 : my_fr [(4, 4), (4, 5), (4, 6), (4, 7), (4, 8), (4, 9), (5, 5), (5, 6), (5, 7), (5, 8), (5, 9), (32, -1), (33, -1), (34, -1), (35, -1), (36, -1), (37, -1), (38, -1), (39, -1)] h h1175 := my_fr.tr gh1158 (frh1175.mo rfl)
              have Ln_h1175 : Ln h1175 := Ln_ag (my_ag.fr frh1175 rfl) Ln_h1158
              have Sp_h1175 : Sp h1175 wv := Sp_ag (my_ag.fr frh1175 rfl) hwv Ln_h1158 Sp_h1158
              have Lo_h1175 : Lo h h1175 := Lo_ag (my_ag.fr frh1175 rfl) Ln_h1158 Lo_h1158
              show wp l rho (d + 7) 49 99 [(2, 82), (0, 1), (0, 1), (0, 0), (0, 0), (0, 1)] [] h1175 Q
              have tE1183 : cs h1158 = cs h := cs_eq (fun j => my_fr.at gh1158 is_92 rfl) (my_fr.at gh1158 is_82 rfl)
              rw [tE1183] at xp1177
              have ps1184 : h1158 82 7 = (sN (cs h) (h 82 7)) := xc1166
              rw [ps1184] at xp1177
              have q2 : h1158 82 2 = h 82 2 := my_fr.at frh1158 is_82 rfl
              have q11 : h1158 (h 82 2) 1 = h (h 82 2) 1 := my_fr.at frh1158 n_Ln.2.2.2.1 rfl
              have q13 : h1158 (h 82 2) 3 = h (h 82 2) 3 := my_fr.at frh1158 n_Ln.2.2.2.1 rfl
              have q14 : h1158 (h 82 2) 4 = h (h 82 2) 4 := my_fr.at frh1158 n_Ln.2.2.2.1 rfl
              have q19 : h1158 (h 82 2) 9 = h (h 82 2) 9 := my_fr.at frh1158 n_Ln.2.2.2.1 rfl
              have qc : h1158 2 = h 2 := funext (fun j => my_fr.at frh1158 is_2 rfl)
              have zF := xp1177
              simp only [q2, q11, q13, q14, q19, qc] at zF
              have st : h1175 82 2 = h 82 2 ∧ h1175 (h 82 2) 3 = h (h 82 2) 3 ∧ h1175 (h 82 2) 4 = h (h 82 2) 4 ∧ h1175 (h 82 2) 9 = h (h 82 2) 9 ∧ h1175 (h 82 2) 1 = h (h 82 2) 1 := ⟨(my_fr.at frh1175 is_82 rfl).trans q2, (my_fr.at frh1175 n_Ln.2.2.2.1 rfl).trans q13, (my_fr.at frh1175 n_Ln.2.2.2.1 rfl).trans q14, (my_fr.at frh1175 n_Ln.2.2.2.1 rfl).trans q19, (my_fr.at frh1175 n_Ln.2.2.2.1 rfl).trans q11⟩
              refine w_goto (t := 140) gz_49_99 rfl ?_
              have psR : h1175 82 7 = h1175 82 7 := (rfl : h1175 82 7 = h1175 82 7)
              have npsR : cs h1175 = cs h := cs_eq (fun j => my_fr.at gh1175 is_92 rfl) (my_fr.at gh1175 is_82 rfl)
              have c1185 := w1176
              exact w_vret gz_49_140 gm_49 (k1 h1175 (gh1175) (by omega) (by first | exact Lo_h1175 | exact ⟨st.1, st.2.1, st.2.2.2.2⟩ | exact Or.inl ⟨by omega, zF, st.2.2.1, st.2.2.2.1⟩ | exact Or.inr (Or.inr (Or.inl ⟨by omega, by omega, zC, st.2.2.1, st.2.2.2.1⟩)) | exact Or.inr (Or.inr (Or.inr (Or.inl ⟨by omega, by omega, zW, st.2.2.2.1⟩))) | exact Or.inr (Or.inr (Or.inr (Or.inr (Or.inl ⟨by omega, by omega, zJ, fun _ => st.2.2.1, st.2.2.2.1⟩)))) | exact Or.inr (Or.inr (Or.inr (Or.inr (Or.inr (Or.inl ⟨by omega, by omega, zS, st.2.2.1, st.2.2.2.1⟩))))) | exact ⟨_, _, _, Or.inl ⟨by omega, zF, rfl, rfl⟩⟩ | exact ⟨_, _, _, Or.inr (Or.inr (Or.inl ⟨by omega, by omega, zC, rfl, rfl⟩))⟩ | exact ⟨_, _, _, Or.inr (Or.inr (Or.inr (Or.inl ⟨by omega, by omega, zW, rfl⟩)))⟩ | exact ⟨_, _, _, Or.inr (Or.inr (Or.inr (Or.inr (Or.inl ⟨by omega, by omega, zJ, fun q => absurd q (by omega), rfl⟩))))⟩ | exact ⟨_, _, _, Or.inr (Or.inr (Or.inr (Or.inr (Or.inr (Or.inl ⟨by omega, by omega, zS, rfl, rfl⟩)))))⟩ | exact ⟨0, 0, 0, Or.inr (Or.inl ⟨by omega, by omega, by omega⟩)⟩ | exact ⟨0, 0, 0, Or.inr (Or.inr (Or.inr (Or.inr (Or.inr (Or.inr ⟨by omega, by omega, by omega, by omega, by omega, by omega⟩)))))⟩ | (exfalso; omega) | omega) (by first | exact Lo_h1175 | exact ⟨st.1, st.2.1, st.2.2.2.2⟩ | exact Or.inl ⟨by omega, zF, st.2.2.1, st.2.2.2.1⟩ | exact Or.inr (Or.inr (Or.inl ⟨by omega, by omega, zC, st.2.2.1, st.2.2.2.1⟩)) | exact Or.inr (Or.inr (Or.inr (Or.inl ⟨by omega, by omega, zW, st.2.2.2.1⟩))) | exact Or.inr (Or.inr (Or.inr (Or.inr (Or.inl ⟨by omega, by omega, zJ, fun _ => st.2.2.1, st.2.2.2.1⟩)))) | exact Or.inr (Or.inr (Or.inr (Or.inr (Or.inr (Or.inl ⟨by omega, by omega, zS, st.2.2.1, st.2.2.2.1⟩))))) | exact ⟨_, _, _, Or.inl ⟨by omega, zF, rfl, rfl⟩⟩ | exact ⟨_, _, _, Or.inr (Or.inr (Or.inl ⟨by omega, by omega, zC, rfl, rfl⟩))⟩ | exact ⟨_, _, _, Or.inr (Or.inr (Or.inr (Or.inl ⟨by omega, by omega, zW, rfl⟩)))⟩ | exact ⟨_, _, _, Or.inr (Or.inr (Or.inr (Or.inr (Or.inl ⟨by omega, by omega, zJ, fun q => absurd q (by omega), rfl⟩))))⟩ | exact ⟨_, _, _, Or.inr (Or.inr (Or.inr (Or.inr (Or.inr (Or.inl ⟨by omega, by omega, zS, rfl, rfl⟩)))))⟩ | exact ⟨0, 0, 0, Or.inr (Or.inl ⟨by omega, by omega, by omega⟩)⟩ | exact ⟨0, 0, 0, Or.inr (Or.inr (Or.inr (Or.inr (Or.inr (Or.inr ⟨by omega, by omega, by omega, by omega, by omega, by omega⟩)))))⟩ | (exfalso; omega) | omega) (by first | exact Lo_h1175 | exact ⟨st.1, st.2.1, st.2.2.2.2⟩ | exact Or.inl ⟨by omega, zF, st.2.2.1, st.2.2.2.1⟩ | exact Or.inr (Or.inr (Or.inl ⟨by omega, by omega, zC, st.2.2.1, st.2.2.2.1⟩)) | exact Or.inr (Or.inr (Or.inr (Or.inl ⟨by omega, by omega, zW, st.2.2.2.1⟩))) | exact Or.inr (Or.inr (Or.inr (Or.inr (Or.inl ⟨by omega, by omega, zJ, fun _ => st.2.2.1, st.2.2.2.1⟩)))) | exact Or.inr (Or.inr (Or.inr (Or.inr (Or.inr (Or.inl ⟨by omega, by omega, zS, st.2.2.1, st.2.2.2.1⟩))))) | exact ⟨_, _, _, Or.inl ⟨by omega, zF, rfl, rfl⟩⟩ | exact ⟨_, _, _, Or.inr (Or.inr (Or.inl ⟨by omega, by omega, zC, rfl, rfl⟩))⟩ | exact ⟨_, _, _, Or.inr (Or.inr (Or.inr (Or.inl ⟨by omega, by omega, zW, rfl⟩)))⟩ | exact ⟨_, _, _, Or.inr (Or.inr (Or.inr (Or.inr (Or.inl ⟨by omega, by omega, zJ, fun q => absurd q (by omega), rfl⟩))))⟩ | exact ⟨_, _, _, Or.inr (Or.inr (Or.inr (Or.inr (Or.inr (Or.inl ⟨by omega, by omega, zS, rfl, rfl⟩)))))⟩ | exact ⟨0, 0, 0, Or.inr (Or.inl ⟨by omega, by omega, by omega⟩)⟩ | exact ⟨0, 0, 0, Or.inr (Or.inr (Or.inr (Or.inr (Or.inr (Or.inr ⟨by omega, by omega, by omega, by omega, by omega, by omega⟩)))))⟩ | (exfalso; omega) | omega) Ln_h1175 Sp_h1175 Al_h1175t1178 Cu_h1175t1179)
        ·
          show wp l rho (d + 7) 49 27 [(2, 82), (0, 1), (0, 1), (0, 0), (9, 0), (9, 0)] [(0, 1)] h Q
          rw [show wc ((7 : Nat) : Int) = 527412 from by decide] at xp1120
          refine w_istore (ls' := [(2, 82), (0, 1), (0, 1), (0, 0), (0, 1), (9, 0)]) gz_49_27 gm_49 rfl rfl rfl ?_
          refine w_aload_n gz_49_29 rfl ?_
          refine w_ldcS gz_49_30 (by decide) ?_
          refine w_inv (k := 1) (as := [(3, ((8 : Nat) : Int))]) (r := []) (x := 82) (ls0 := [(2, 82), (3, ((8 : Nat) : Int)), (9, 0)]) gz_49_32 gm_41 rfl is_82 rd_5 rfl rfl rfl rfl rfl (c_Reader_isWord9_f0 (d := (d + 2)) (x1 := ((8 : Nat) : Int)) (by decide) (cf.trans (by omega)) n_Cu (fun w1186 xp1187 => ?_) (fun w1188 w1189 xp1190 => ?_))
          ·
            show wp l rho (d + 7) 49 35 [(2, 82), (0, 1), (0, 1), (0, 0), (0, 1), (9, 0)] [(0, 0)] h Q
            rw [show wc ((8 : Nat) : Int) = 26801 from by decide] at xp1187
            refine w_istore (ls' := [(2, 82), (0, 1), (0, 1), (0, 0), (0, 1), (0, 0)]) gz_49_35 gm_49 rfl rfl rfl ?_
            refine w_iload_n gz_49_37 rfl ?_
            refine w_ifne (t := 65) gz_49_38 rfl (fun u1191 => ?_) (fun u1191 => by exfalso; omega)
            refine w_iload_n gz_49_65 rfl ?_
            refine w_ifne (t := 87) gz_49_66 rfl (fun u1192 => ?_) (fun u1192 => by exfalso; omega)
            refine w_aload_n gz_49_87 rfl ?_
            refine w_inv (k := 2) (as := []) (r := []) (x := 82) (ls0 := [(2, 82), (9, 0), (9, 0)]) gz_49_88 gm_37 rfl is_82 rd_5 rfl rfl rfl rfl rfl (c_Reader_nextToken9_f0 (d := (d + 5))  (cf.trans (by omega)) n_Al (fun h1193 frh1193 w1194 w1195 w1196 xp1197 xp1198 Al_h1193t1199 Cu_h1193t1200 => ?_))
            have gh1193 : my_fr [(4, 4), (4, 5), (4, 6), (4, 7), (4, 8), (4, 9), (5, 5), (5, 6), (5, 7), (5, 8), (5, 9), (32, -1), (33, -1), (34, -1), (35, -1), (36, -1), (37, -1), (38, -1), (39, -1)] h h1193 := my_fr.tr my_fr.rf (frh1193.mo rfl)
            have Ln_h1193 : Ln h1193 := Ln_ag (my_ag.fr frh1193 rfl) n_Ln
            have Sp_h1193 : Sp h1193 wv := Sp_ag (my_ag.fr frh1193 rfl) hwv n_Ln n_Sp
            have Lo_h1193 : Lo h h1193 := Lo_ag (my_ag.fr frh1193 rfl) n_Ln (Lo_rf)
            show wp l rho (d + 7) 49 91 [(2, 82), (0, 1), (0, 1), (0, 0), (0, 1), (0, 0)] [] h1193 Q
            have xc1201 := xp1197 n_Cu
            have ck1202 := Cu_s Cu_h1193t1200
            rw [show cs h1193 = cs h from cs_eq (fun j => my_fr.at gh1193 is_92 rfl) (my_fr.at gh1193 is_82 rfl)] at ck1202
            rw [show h1193 82 7 = (sN (cs h) (h 82 7)) from xc1201] at ck1202
            refine w_iload_n gz_49_91 rfl ?_
            refine w_ifeq (t := 102) gz_49_92 rfl (fun u1203 => by exfalso; omega) (fun u1203 => ?_)
            refine w_aload_n gz_49_95 rfl ?_
            refine w_inv (k := 2) (as := []) (r := []) (x := 82) (ls0 := [(2, 82), (9, 0), (9, 0)]) gz_49_96 gm_50 rfl is_82 rd_5 rfl rfl rfl rfl rfl (c_Reader_readFill9_f0 (d := (d + 3))  (((my_fr.at frh1193 is_82 rfl).trans cf).trans (by omega)) Al_h1193t1199 Cu_h1193t1200 (fun h1204 frh1204 w1205 w1206 xp1207 Al_h1204t1208 Cu_h1204t1209 => ?_) (fun h1210 frh1210 w1211 xp1212 Al_h1210t1213 Cu_h1210t1214 => ?_))
            ·
              have gh1204 : my_fr [(4, 4), (4, 5), (4, 6), (4, 7), (4, 8), (4, 9), (5, 5), (5, 6), (5, 7), (5, 8), (5, 9), (32, -1), (33, -1), (34, -1), (35, -1), (36, -1), (37, -1), (38, -1), (39, -1)] h h1204 := my_fr.tr gh1193 (frh1204.mo rfl)
              have Ln_h1204 : Ln h1204 := Ln_ag (my_ag.fr frh1204 rfl) Ln_h1193
              have Sp_h1204 : Sp h1204 wv := Sp_ag (my_ag.fr frh1204 rfl) hwv Ln_h1193 Sp_h1193
              have Lo_h1204 : Lo h h1204 := Lo_ag (my_ag.fr frh1204 rfl) Ln_h1193 Lo_h1193
              show wp l rho (d + 7) 49 99 [(2, 82), (0, 1), (0, 1), (0, 0), (0, 1), (0, 0)] [] h1204 Q
              have tE1215 : cs h1193 = cs h := cs_eq (fun j => my_fr.at gh1193 is_92 rfl) (my_fr.at gh1193 is_82 rfl)
              rw [tE1215] at xp1207
              have ps1216 : h1193 82 7 = (sN (cs h) (h 82 7)) := xc1201
              rw [ps1216] at xp1207
              have q2 : h1193 82 2 = h 82 2 := my_fr.at frh1193 is_82 rfl
              have q11 : h1193 (h 82 2) 1 = h (h 82 2) 1 := my_fr.at frh1193 n_Ln.2.2.2.1 rfl
              have q13 : h1193 (h 82 2) 3 = h (h 82 2) 3 := my_fr.at frh1193 n_Ln.2.2.2.1 rfl
              have q14 : h1193 (h 82 2) 4 = h (h 82 2) 4 := my_fr.at frh1193 n_Ln.2.2.2.1 rfl
              have q19 : h1193 (h 82 2) 9 = h (h 82 2) 9 := my_fr.at frh1193 n_Ln.2.2.2.1 rfl
              have qc : h1193 2 = h 2 := funext (fun j => my_fr.at frh1193 is_2 rfl)
              have zF := xp1207
              simp only [q2, q11, q13, q14, q19, qc] at zF
              have st : h1204 82 2 = h 82 2 ∧ h1204 (h 82 2) 3 = h (h 82 2) 3 ∧ h1204 (h 82 2) 4 = h (h 82 2) 4 ∧ h1204 (h 82 2) 9 = h (h 82 2) 9 ∧ h1204 (h 82 2) 1 = h (h 82 2) 1 := ⟨(my_fr.at frh1204 is_82 rfl).trans q2, (my_fr.at frh1204 n_Ln.2.2.2.1 rfl).trans q13, (my_fr.at frh1204 n_Ln.2.2.2.1 rfl).trans q14, (my_fr.at frh1204 n_Ln.2.2.2.1 rfl).trans q19, (my_fr.at frh1204 n_Ln.2.2.2.1 rfl).trans q11⟩
              refine w_goto (t := 140) gz_49_99 rfl ?_
              have psR : h1204 82 7 = h1204 82 7 := (rfl : h1204 82 7 = h1204 82 7)
              have npsR : cs h1204 = cs h := cs_eq (fun j => my_fr.at gh1204 is_92 rfl) (my_fr.at gh1204 is_82 rfl)
              have c1217 := (rfl : h1204 82 9 = h1204 82 9)
              exact w_vret gz_49_140 gm_49 (k0 h1204 (gh1204) (by omega) (by omega) (by first | exact Lo_h1204 | exact ⟨st.1, st.2.1, st.2.2.2.2⟩ | exact Or.inl ⟨by omega, zF, st.2.2.1, st.2.2.2.1⟩ | exact Or.inr (Or.inr (Or.inl ⟨by omega, by omega, zC, st.2.2.1, st.2.2.2.1⟩)) | exact Or.inr (Or.inr (Or.inr (Or.inl ⟨by omega, by omega, zW, st.2.2.2.1⟩))) | exact Or.inr (Or.inr (Or.inr (Or.inr (Or.inl ⟨by omega, by omega, zJ, fun _ => st.2.2.1, st.2.2.2.1⟩)))) | exact Or.inr (Or.inr (Or.inr (Or.inr (Or.inr (Or.inl ⟨by omega, by omega, zS, st.2.2.1, st.2.2.2.1⟩))))) | exact ⟨_, _, _, Or.inl ⟨by omega, zF, rfl, rfl⟩⟩ | exact ⟨_, _, _, Or.inr (Or.inr (Or.inl ⟨by omega, by omega, zC, rfl, rfl⟩))⟩ | exact ⟨_, _, _, Or.inr (Or.inr (Or.inr (Or.inl ⟨by omega, by omega, zW, rfl⟩)))⟩ | exact ⟨_, _, _, Or.inr (Or.inr (Or.inr (Or.inr (Or.inl ⟨by omega, by omega, zJ, fun q => absurd q (by omega), rfl⟩))))⟩ | exact ⟨_, _, _, Or.inr (Or.inr (Or.inr (Or.inr (Or.inr (Or.inl ⟨by omega, by omega, zS, rfl, rfl⟩)))))⟩ | exact ⟨0, 0, 0, Or.inr (Or.inl ⟨by omega, by omega, by omega⟩)⟩ | exact ⟨0, 0, 0, Or.inr (Or.inr (Or.inr (Or.inr (Or.inr (Or.inr ⟨by omega, by omega, by omega, by omega, by omega, by omega⟩)))))⟩ | (exfalso; omega) | omega) (by first | exact Lo_h1204 | exact ⟨st.1, st.2.1, st.2.2.2.2⟩ | exact Or.inl ⟨by omega, zF, st.2.2.1, st.2.2.2.1⟩ | exact Or.inr (Or.inr (Or.inl ⟨by omega, by omega, zC, st.2.2.1, st.2.2.2.1⟩)) | exact Or.inr (Or.inr (Or.inr (Or.inl ⟨by omega, by omega, zW, st.2.2.2.1⟩))) | exact Or.inr (Or.inr (Or.inr (Or.inr (Or.inl ⟨by omega, by omega, zJ, fun _ => st.2.2.1, st.2.2.2.1⟩)))) | exact Or.inr (Or.inr (Or.inr (Or.inr (Or.inr (Or.inl ⟨by omega, by omega, zS, st.2.2.1, st.2.2.2.1⟩))))) | exact ⟨_, _, _, Or.inl ⟨by omega, zF, rfl, rfl⟩⟩ | exact ⟨_, _, _, Or.inr (Or.inr (Or.inl ⟨by omega, by omega, zC, rfl, rfl⟩))⟩ | exact ⟨_, _, _, Or.inr (Or.inr (Or.inr (Or.inl ⟨by omega, by omega, zW, rfl⟩)))⟩ | exact ⟨_, _, _, Or.inr (Or.inr (Or.inr (Or.inr (Or.inl ⟨by omega, by omega, zJ, fun q => absurd q (by omega), rfl⟩))))⟩ | exact ⟨_, _, _, Or.inr (Or.inr (Or.inr (Or.inr (Or.inr (Or.inl ⟨by omega, by omega, zS, rfl, rfl⟩)))))⟩ | exact ⟨0, 0, 0, Or.inr (Or.inl ⟨by omega, by omega, by omega⟩)⟩ | exact ⟨0, 0, 0, Or.inr (Or.inr (Or.inr (Or.inr (Or.inr (Or.inr ⟨by omega, by omega, by omega, by omega, by omega, by omega⟩)))))⟩ | (exfalso; omega) | omega) Ln_h1204 Sp_h1204 Al_h1204t1208 Cu_h1204t1209)
            ·
              have gh1210 : my_fr [(4, 4), (4, 5), (4, 6), (4, 7), (4, 8), (4, 9), (5, 5), (5, 6), (5, 7), (5, 8), (5, 9), (32, -1), (33, -1), (34, -1), (35, -1), (36, -1), (37, -1), (38, -1), (39, -1)] h h1210 := my_fr.tr gh1193 (frh1210.mo rfl)
              have Ln_h1210 : Ln h1210 := Ln_ag (my_ag.fr frh1210 rfl) Ln_h1193
              have Sp_h1210 : Sp h1210 wv := Sp_ag (my_ag.fr frh1210 rfl) hwv Ln_h1193 Sp_h1193
              have Lo_h1210 : Lo h h1210 := Lo_ag (my_ag.fr frh1210 rfl) Ln_h1193 Lo_h1193
              show wp l rho (d + 7) 49 99 [(2, 82), (0, 1), (0, 1), (0, 0), (0, 1), (0, 0)] [] h1210 Q
              have tE1218 : cs h1193 = cs h := cs_eq (fun j => my_fr.at gh1193 is_92 rfl) (my_fr.at gh1193 is_82 rfl)
              rw [tE1218] at xp1212
              have ps1219 : h1193 82 7 = (sN (cs h) (h 82 7)) := xc1201
              rw [ps1219] at xp1212
              have q2 : h1193 82 2 = h 82 2 := my_fr.at frh1193 is_82 rfl
              have q11 : h1193 (h 82 2) 1 = h (h 82 2) 1 := my_fr.at frh1193 n_Ln.2.2.2.1 rfl
              have q13 : h1193 (h 82 2) 3 = h (h 82 2) 3 := my_fr.at frh1193 n_Ln.2.2.2.1 rfl
              have q14 : h1193 (h 82 2) 4 = h (h 82 2) 4 := my_fr.at frh1193 n_Ln.2.2.2.1 rfl
              have q19 : h1193 (h 82 2) 9 = h (h 82 2) 9 := my_fr.at frh1193 n_Ln.2.2.2.1 rfl
              have qc : h1193 2 = h 2 := funext (fun j => my_fr.at frh1193 is_2 rfl)
              have zF := xp1212
              simp only [q2, q11, q13, q14, q19, qc] at zF
              have st : h1210 82 2 = h 82 2 ∧ h1210 (h 82 2) 3 = h (h 82 2) 3 ∧ h1210 (h 82 2) 4 = h (h 82 2) 4 ∧ h1210 (h 82 2) 9 = h (h 82 2) 9 ∧ h1210 (h 82 2) 1 = h (h 82 2) 1 := ⟨(my_fr.at frh1210 is_82 rfl).trans q2, (my_fr.at frh1210 n_Ln.2.2.2.1 rfl).trans q13, (my_fr.at frh1210 n_Ln.2.2.2.1 rfl).trans q14, (my_fr.at frh1210 n_Ln.2.2.2.1 rfl).trans q19, (my_fr.at frh1210 n_Ln.2.2.2.1 rfl).trans q11⟩
              refine w_goto (t := 140) gz_49_99 rfl ?_
              have psR : h1210 82 7 = h1210 82 7 := (rfl : h1210 82 7 = h1210 82 7)
              have npsR : cs h1210 = cs h := cs_eq (fun j => my_fr.at gh1210 is_92 rfl) (my_fr.at gh1210 is_82 rfl)
              have c1220 := w1211
              exact w_vret gz_49_140 gm_49 (k1 h1210 (gh1210) (by omega) (by first | exact Lo_h1210 | exact ⟨st.1, st.2.1, st.2.2.2.2⟩ | exact Or.inl ⟨by omega, zF, st.2.2.1, st.2.2.2.1⟩ | exact Or.inr (Or.inr (Or.inl ⟨by omega, by omega, zC, st.2.2.1, st.2.2.2.1⟩)) | exact Or.inr (Or.inr (Or.inr (Or.inl ⟨by omega, by omega, zW, st.2.2.2.1⟩))) | exact Or.inr (Or.inr (Or.inr (Or.inr (Or.inl ⟨by omega, by omega, zJ, fun _ => st.2.2.1, st.2.2.2.1⟩)))) | exact Or.inr (Or.inr (Or.inr (Or.inr (Or.inr (Or.inl ⟨by omega, by omega, zS, st.2.2.1, st.2.2.2.1⟩))))) | exact ⟨_, _, _, Or.inl ⟨by omega, zF, rfl, rfl⟩⟩ | exact ⟨_, _, _, Or.inr (Or.inr (Or.inl ⟨by omega, by omega, zC, rfl, rfl⟩))⟩ | exact ⟨_, _, _, Or.inr (Or.inr (Or.inr (Or.inl ⟨by omega, by omega, zW, rfl⟩)))⟩ | exact ⟨_, _, _, Or.inr (Or.inr (Or.inr (Or.inr (Or.inl ⟨by omega, by omega, zJ, fun q => absurd q (by omega), rfl⟩))))⟩ | exact ⟨_, _, _, Or.inr (Or.inr (Or.inr (Or.inr (Or.inr (Or.inl ⟨by omega, by omega, zS, rfl, rfl⟩)))))⟩ | exact ⟨0, 0, 0, Or.inr (Or.inl ⟨by omega, by omega, by omega⟩)⟩ | exact ⟨0, 0, 0, Or.inr (Or.inr (Or.inr (Or.inr (Or.inr (Or.inr ⟨by omega, by omega, by omega, by omega, by omega, by omega⟩)))))⟩ | (exfalso; omega) | omega) (by first | exact Lo_h1210 | exact ⟨st.1, st.2.1, st.2.2.2.2⟩ | exact Or.inl ⟨by omega, zF, st.2.2.1, st.2.2.2.1⟩ | exact Or.inr (Or.inr (Or.inl ⟨by omega, by omega, zC, st.2.2.1, st.2.2.2.1⟩)) | exact Or.inr (Or.inr (Or.inr (Or.inl ⟨by omega, by omega, zW, st.2.2.2.1⟩))) | exact Or.inr (Or.inr (Or.inr (Or.inr (Or.inl ⟨by omega, by omega, zJ, fun _ => st.2.2.1, st.2.2.2.1⟩)))) | exact Or.inr (Or.inr (Or.inr (Or.inr (Or.inr (Or.inl ⟨by omega, by omega, zS, st.2.2.1, st.2.2.2.1⟩))))) | exact ⟨_, _, _, Or.inl ⟨by omega, zF, rfl, rfl⟩⟩ | exact ⟨_, _, _, Or.inr (Or.inr (Or.inl ⟨by omega, by omega, zC, rfl, rfl⟩))⟩ | exact ⟨_, _, _, Or.inr (Or.inr (Or.inr (Or.inl ⟨by omega, by omega, zW, rfl⟩)))⟩ | exact ⟨_, _, _, Or.inr (Or.inr (Or.inr (Or.inr (Or.inl ⟨by omega, by omega, zJ, fun q => absurd q (by omega), rfl⟩))))⟩ | exact ⟨_, _, _, Or.inr (Or.inr (Or.inr (Or.inr (Or.inr (Or.inl ⟨by omega, by omega, zS, rfl, rfl⟩)))))⟩ | exact ⟨0, 0, 0, Or.inr (Or.inl ⟨by omega, by omega, by omega⟩)⟩ | exact ⟨0, 0, 0, Or.inr (Or.inr (Or.inr (Or.inr (Or.inr (Or.inr ⟨by omega, by omega, by omega, by omega, by omega, by omega⟩)))))⟩ | (exfalso; omega) | omega) (by first | exact Lo_h1210 | exact ⟨st.1, st.2.1, st.2.2.2.2⟩ | exact Or.inl ⟨by omega, zF, st.2.2.1, st.2.2.2.1⟩ | exact Or.inr (Or.inr (Or.inl ⟨by omega, by omega, zC, st.2.2.1, st.2.2.2.1⟩)) | exact Or.inr (Or.inr (Or.inr (Or.inl ⟨by omega, by omega, zW, st.2.2.2.1⟩))) | exact Or.inr (Or.inr (Or.inr (Or.inr (Or.inl ⟨by omega, by omega, zJ, fun _ => st.2.2.1, st.2.2.2.1⟩)))) | exact Or.inr (Or.inr (Or.inr (Or.inr (Or.inr (Or.inl ⟨by omega, by omega, zS, st.2.2.1, st.2.2.2.1⟩))))) | exact ⟨_, _, _, Or.inl ⟨by omega, zF, rfl, rfl⟩⟩ | exact ⟨_, _, _, Or.inr (Or.inr (Or.inl ⟨by omega, by omega, zC, rfl, rfl⟩))⟩ | exact ⟨_, _, _, Or.inr (Or.inr (Or.inr (Or.inl ⟨by omega, by omega, zW, rfl⟩)))⟩ | exact ⟨_, _, _, Or.inr (Or.inr (Or.inr (Or.inr (Or.inl ⟨by omega, by omega, zJ, fun q => absurd q (by omega), rfl⟩))))⟩ | exact ⟨_, _, _, Or.inr (Or.inr (Or.inr (Or.inr (Or.inr (Or.inl ⟨by omega, by omega, zS, rfl, rfl⟩)))))⟩ | exact ⟨0, 0, 0, Or.inr (Or.inl ⟨by omega, by omega, by omega⟩)⟩ | exact ⟨0, 0, 0, Or.inr (Or.inr (Or.inr (Or.inr (Or.inr (Or.inr ⟨by omega, by omega, by omega, by omega, by omega, by omega⟩)))))⟩ | (exfalso; omega) | omega) Ln_h1210 Sp_h1210 Al_h1210t1213 Cu_h1210t1214)
          ·
            show wp l rho (d + 7) 49 35 [(2, 82), (0, 1), (0, 1), (0, 0), (0, 1), (9, 0)] [(0, 1)] h Q
            rw [show wc ((8 : Nat) : Int) = 26801 from by decide] at xp1190
            refine w_istore (ls' := [(2, 82), (0, 1), (0, 1), (0, 0), (0, 1), (0, 1)]) gz_49_35 gm_49 rfl rfl rfl ?_
            refine w_iload_n gz_49_37 rfl ?_
            refine w_ifne (t := 65) gz_49_38 rfl (fun u1221 => ?_) (fun u1221 => by exfalso; omega)
            refine w_iload_n gz_49_65 rfl ?_
            refine w_ifne (t := 87) gz_49_66 rfl (fun u1222 => ?_) (fun u1222 => by exfalso; omega)
            refine w_aload_n gz_49_87 rfl ?_
            refine w_inv (k := 2) (as := []) (r := []) (x := 82) (ls0 := [(2, 82), (9, 0), (9, 0)]) gz_49_88 gm_37 rfl is_82 rd_5 rfl rfl rfl rfl rfl (c_Reader_nextToken9_f0 (d := (d + 5))  (cf.trans (by omega)) n_Al (fun h1223 frh1223 w1224 w1225 w1226 xp1227 xp1228 Al_h1223t1229 Cu_h1223t1230 => ?_))
            have gh1223 : my_fr [(4, 4), (4, 5), (4, 6), (4, 7), (4, 8), (4, 9), (5, 5), (5, 6), (5, 7), (5, 8), (5, 9), (32, -1), (33, -1), (34, -1), (35, -1), (36, -1), (37, -1), (38, -1), (39, -1)] h h1223 := my_fr.tr my_fr.rf (frh1223.mo rfl)
            have Ln_h1223 : Ln h1223 := Ln_ag (my_ag.fr frh1223 rfl) n_Ln
            have Sp_h1223 : Sp h1223 wv := Sp_ag (my_ag.fr frh1223 rfl) hwv n_Ln n_Sp
            have Lo_h1223 : Lo h h1223 := Lo_ag (my_ag.fr frh1223 rfl) n_Ln (Lo_rf)
            show wp l rho (d + 7) 49 91 [(2, 82), (0, 1), (0, 1), (0, 0), (0, 1), (0, 1)] [] h1223 Q
            have xc1231 := xp1227 n_Cu
            have ck1232 := Cu_s Cu_h1223t1230
            rw [show cs h1223 = cs h from cs_eq (fun j => my_fr.at gh1223 is_92 rfl) (my_fr.at gh1223 is_82 rfl)] at ck1232
            rw [show h1223 82 7 = (sN (cs h) (h 82 7)) from xc1231] at ck1232
            refine w_iload_n gz_49_91 rfl ?_
            refine w_ifeq (t := 102) gz_49_92 rfl (fun u1233 => by exfalso; omega) (fun u1233 => ?_)
            refine w_aload_n gz_49_95 rfl ?_
            refine w_inv (k := 2) (as := []) (r := []) (x := 82) (ls0 := [(2, 82), (9, 0), (9, 0)]) gz_49_96 gm_50 rfl is_82 rd_5 rfl rfl rfl rfl rfl (c_Reader_readFill9_f0 (d := (d + 3))  (((my_fr.at frh1223 is_82 rfl).trans cf).trans (by omega)) Al_h1223t1229 Cu_h1223t1230 (fun h1234 frh1234 w1235 w1236 xp1237 Al_h1234t1238 Cu_h1234t1239 => ?_) (fun h1240 frh1240 w1241 xp1242 Al_h1240t1243 Cu_h1240t1244 => ?_))
            ·
              have gh1234 : my_fr [(4, 4), (4, 5), (4, 6), (4, 7), (4, 8), (4, 9), (5, 5), (5, 6), (5, 7), (5, 8), (5, 9), (32, -1), (33, -1), (34, -1), (35, -1), (36, -1), (37, -1), (38, -1), (39, -1)] h h1234 := my_fr.tr gh1223 (frh1234.mo rfl)
              have Ln_h1234 : Ln h1234 := Ln_ag (my_ag.fr frh1234 rfl) Ln_h1223
              have Sp_h1234 : Sp h1234 wv := Sp_ag (my_ag.fr frh1234 rfl) hwv Ln_h1223 Sp_h1223
              have Lo_h1234 : Lo h h1234 := Lo_ag (my_ag.fr frh1234 rfl) Ln_h1223 Lo_h1223
              show wp l rho (d + 7) 49 99 [(2, 82), (0, 1), (0, 1), (0, 0), (0, 1), (0, 1)] [] h1234 Q
              have tE1245 : cs h1223 = cs h := cs_eq (fun j => my_fr.at gh1223 is_92 rfl) (my_fr.at gh1223 is_82 rfl)
              rw [tE1245] at xp1237
              have ps1246 : h1223 82 7 = (sN (cs h) (h 82 7)) := xc1231
              rw [ps1246] at xp1237
              have q2 : h1223 82 2 = h 82 2 := my_fr.at frh1223 is_82 rfl
              have q11 : h1223 (h 82 2) 1 = h (h 82 2) 1 := my_fr.at frh1223 n_Ln.2.2.2.1 rfl
              have q13 : h1223 (h 82 2) 3 = h (h 82 2) 3 := my_fr.at frh1223 n_Ln.2.2.2.1 rfl
              have q14 : h1223 (h 82 2) 4 = h (h 82 2) 4 := my_fr.at frh1223 n_Ln.2.2.2.1 rfl
              have q19 : h1223 (h 82 2) 9 = h (h 82 2) 9 := my_fr.at frh1223 n_Ln.2.2.2.1 rfl
              have qc : h1223 2 = h 2 := funext (fun j => my_fr.at frh1223 is_2 rfl)
              have zF := xp1237
              simp only [q2, q11, q13, q14, q19, qc] at zF
              have st : h1234 82 2 = h 82 2 ∧ h1234 (h 82 2) 3 = h (h 82 2) 3 ∧ h1234 (h 82 2) 4 = h (h 82 2) 4 ∧ h1234 (h 82 2) 9 = h (h 82 2) 9 ∧ h1234 (h 82 2) 1 = h (h 82 2) 1 := ⟨(my_fr.at frh1234 is_82 rfl).trans q2, (my_fr.at frh1234 n_Ln.2.2.2.1 rfl).trans q13, (my_fr.at frh1234 n_Ln.2.2.2.1 rfl).trans q14, (my_fr.at frh1234 n_Ln.2.2.2.1 rfl).trans q19, (my_fr.at frh1234 n_Ln.2.2.2.1 rfl).trans q11⟩
              refine w_goto (t := 140) gz_49_99 rfl ?_
              have psR : h1234 82 7 = h1234 82 7 := (rfl : h1234 82 7 = h1234 82 7)
              have npsR : cs h1234 = cs h := cs_eq (fun j => my_fr.at gh1234 is_92 rfl) (my_fr.at gh1234 is_82 rfl)
              have c1247 := (rfl : h1234 82 9 = h1234 82 9)
              exact w_vret gz_49_140 gm_49 (k0 h1234 (gh1234) (by omega) (by omega) (by first | exact Lo_h1234 | exact ⟨st.1, st.2.1, st.2.2.2.2⟩ | exact Or.inl ⟨by omega, zF, st.2.2.1, st.2.2.2.1⟩ | exact Or.inr (Or.inr (Or.inl ⟨by omega, by omega, zC, st.2.2.1, st.2.2.2.1⟩)) | exact Or.inr (Or.inr (Or.inr (Or.inl ⟨by omega, by omega, zW, st.2.2.2.1⟩))) | exact Or.inr (Or.inr (Or.inr (Or.inr (Or.inl ⟨by omega, by omega, zJ, fun _ => st.2.2.1, st.2.2.2.1⟩)))) | exact Or.inr (Or.inr (Or.inr (Or.inr (Or.inr (Or.inl ⟨by omega, by omega, zS, st.2.2.1, st.2.2.2.1⟩))))) | exact ⟨_, _, _, Or.inl ⟨by omega, zF, rfl, rfl⟩⟩ | exact ⟨_, _, _, Or.inr (Or.inr (Or.inl ⟨by omega, by omega, zC, rfl, rfl⟩))⟩ | exact ⟨_, _, _, Or.inr (Or.inr (Or.inr (Or.inl ⟨by omega, by omega, zW, rfl⟩)))⟩ | exact ⟨_, _, _, Or.inr (Or.inr (Or.inr (Or.inr (Or.inl ⟨by omega, by omega, zJ, fun q => absurd q (by omega), rfl⟩))))⟩ | exact ⟨_, _, _, Or.inr (Or.inr (Or.inr (Or.inr (Or.inr (Or.inl ⟨by omega, by omega, zS, rfl, rfl⟩)))))⟩ | exact ⟨0, 0, 0, Or.inr (Or.inl ⟨by omega, by omega, by omega⟩)⟩ | exact ⟨0, 0, 0, Or.inr (Or.inr (Or.inr (Or.inr (Or.inr (Or.inr ⟨by omega, by omega, by omega, by omega, by omega, by omega⟩)))))⟩ | (exfalso; omega) | omega) (by first | exact Lo_h1234 | exact ⟨st.1, st.2.1, st.2.2.2.2⟩ | exact Or.inl ⟨by omega, zF, st.2.2.1, st.2.2.2.1⟩ | exact Or.inr (Or.inr (Or.inl ⟨by omega, by omega, zC, st.2.2.1, st.2.2.2.1⟩)) | exact Or.inr (Or.inr (Or.inr (Or.inl ⟨by omega, by omega, zW, st.2.2.2.1⟩))) | exact Or.inr (Or.inr (Or.inr (Or.inr (Or.inl ⟨by omega, by omega, zJ, fun _ => st.2.2.1, st.2.2.2.1⟩)))) | exact Or.inr (Or.inr (Or.inr (Or.inr (Or.inr (Or.inl ⟨by omega, by omega, zS, st.2.2.1, st.2.2.2.1⟩))))) | exact ⟨_, _, _, Or.inl ⟨by omega, zF, rfl, rfl⟩⟩ | exact ⟨_, _, _, Or.inr (Or.inr (Or.inl ⟨by omega, by omega, zC, rfl, rfl⟩))⟩ | exact ⟨_, _, _, Or.inr (Or.inr (Or.inr (Or.inl ⟨by omega, by omega, zW, rfl⟩)))⟩ | exact ⟨_, _, _, Or.inr (Or.inr (Or.inr (Or.inr (Or.inl ⟨by omega, by omega, zJ, fun q => absurd q (by omega), rfl⟩))))⟩ | exact ⟨_, _, _, Or.inr (Or.inr (Or.inr (Or.inr (Or.inr (Or.inl ⟨by omega, by omega, zS, rfl, rfl⟩)))))⟩ | exact ⟨0, 0, 0, Or.inr (Or.inl ⟨by omega, by omega, by omega⟩)⟩ | exact ⟨0, 0, 0, Or.inr (Or.inr (Or.inr (Or.inr (Or.inr (Or.inr ⟨by omega, by omega, by omega, by omega, by omega, by omega⟩)))))⟩ | (exfalso; omega) | omega) Ln_h1234 Sp_h1234 Al_h1234t1238 Cu_h1234t1239)
            ·
              have gh1240 : my_fr [(4, 4), (4, 5), (4, 6), (4, 7), (4, 8), (4, 9), (5, 5), (5, 6), (5, 7), (5, 8), (5, 9), (32, -1), (33, -1), (34, -1), (35, -1), (36, -1), (37, -1), (38, -1), (39, -1)] h h1240 := my_fr.tr gh1223 (frh1240.mo rfl)
              have Ln_h1240 : Ln h1240 := Ln_ag (my_ag.fr frh1240 rfl) Ln_h1223
              have Sp_h1240 : Sp h1240 wv := Sp_ag (my_ag.fr frh1240 rfl) hwv Ln_h1223 Sp_h1223
              have Lo_h1240 : Lo h h1240 := Lo_ag (my_ag.fr frh1240 rfl) Ln_h1223 Lo_h1223
              show wp l rho (d + 7) 49 99 [(2, 82), (0, 1), (0, 1), (0, 0), (0, 1), (0, 1)] [] h1240 Q
              have tE1248 : cs h1223 = cs h := cs_eq (fun j => my_fr.at gh1223 is_92 rfl) (my_fr.at gh1223 is_82 rfl)
              rw [tE1248] at xp1242
              have ps1249 : h1223 82 7 = (sN (cs h) (h 82 7)) := xc1231
              rw [ps1249] at xp1242
              have q2 : h1223 82 2 = h 82 2 := my_fr.at frh1223 is_82 rfl
              have q11 : h1223 (h 82 2) 1 = h (h 82 2) 1 := my_fr.at frh1223 n_Ln.2.2.2.1 rfl
              have q13 : h1223 (h 82 2) 3 = h (h 82 2) 3 := my_fr.at frh1223 n_Ln.2.2.2.1 rfl
              have q14 : h1223 (h 82 2) 4 = h (h 82 2) 4 := my_fr.at frh1223 n_Ln.2.2.2.1 rfl
              have q19 : h1223 (h 82 2) 9 = h (h 82 2) 9 := my_fr.at frh1223 n_Ln.2.2.2.1 rfl
              have qc : h1223 2 = h 2 := funext (fun j => my_fr.at frh1223 is_2 rfl)
              have zF := xp1242
              simp only [q2, q11, q13, q14, q19, qc] at zF
              have st : h1240 82 2 = h 82 2 ∧ h1240 (h 82 2) 3 = h (h 82 2) 3 ∧ h1240 (h 82 2) 4 = h (h 82 2) 4 ∧ h1240 (h 82 2) 9 = h (h 82 2) 9 ∧ h1240 (h 82 2) 1 = h (h 82 2) 1 := ⟨(my_fr.at frh1240 is_82 rfl).trans q2, (my_fr.at frh1240 n_Ln.2.2.2.1 rfl).trans q13, (my_fr.at frh1240 n_Ln.2.2.2.1 rfl).trans q14, (my_fr.at frh1240 n_Ln.2.2.2.1 rfl).trans q19, (my_fr.at frh1240 n_Ln.2.2.2.1 rfl).trans q11⟩
              refine w_goto (t := 140) gz_49_99 rfl ?_
              have psR : h1240 82 7 = h1240 82 7 := (rfl : h1240 82 7 = h1240 82 7)
              have npsR : cs h1240 = cs h := cs_eq (fun j => my_fr.at gh1240 is_92 rfl) (my_fr.at gh1240 is_82 rfl)
              have c1250 := w1241
              exact w_vret gz_49_140 gm_49 (k1 h1240 (gh1240) (by omega) (by first | exact Lo_h1240 | exact ⟨st.1, st.2.1, st.2.2.2.2⟩ | exact Or.inl ⟨by omega, zF, st.2.2.1, st.2.2.2.1⟩ | exact Or.inr (Or.inr (Or.inl ⟨by omega, by omega, zC, st.2.2.1, st.2.2.2.1⟩)) | exact Or.inr (Or.inr (Or.inr (Or.inl ⟨by omega, by omega, zW, st.2.2.2.1⟩))) | exact Or.inr (Or.inr (Or.inr (Or.inr (Or.inl ⟨by omega, by omega, zJ, fun _ => st.2.2.1, st.2.2.2.1⟩)))) | exact Or.inr (Or.inr (Or.inr (Or.inr (Or.inr (Or.inl ⟨by omega, by omega, zS, st.2.2.1, st.2.2.2.1⟩))))) | exact ⟨_, _, _, Or.inl ⟨by omega, zF, rfl, rfl⟩⟩ | exact ⟨_, _, _, Or.inr (Or.inr (Or.inl ⟨by omega, by omega, zC, rfl, rfl⟩))⟩ | exact ⟨_, _, _, Or.inr (Or.inr (Or.inr (Or.inl ⟨by omega, by omega, zW, rfl⟩)))⟩ | exact ⟨_, _, _, Or.inr (Or.inr (Or.inr (Or.inr (Or.inl ⟨by omega, by omega, zJ, fun q => absurd q (by omega), rfl⟩))))⟩ | exact ⟨_, _, _, Or.inr (Or.inr (Or.inr (Or.inr (Or.inr (Or.inl ⟨by omega, by omega, zS, rfl, rfl⟩)))))⟩ | exact ⟨0, 0, 0, Or.inr (Or.inl ⟨by omega, by omega, by omega⟩)⟩ | exact ⟨0, 0, 0, Or.inr (Or.inr (Or.inr (Or.inr (Or.inr (Or.inr ⟨by omega, by omega, by omega, by omega, by omega, by omega⟩)))))⟩ | (exfalso; omega) | omega) (by first | exact Lo_h1240 | exact ⟨st.1, st.2.1, st.2.2.2.2⟩ | exact Or.inl ⟨by omega, zF, st.2.2.1, st.2.2.2.1⟩ | exact Or.inr (Or.inr (Or.inl ⟨by omega, by omega, zC, st.2.2.1, st.2.2.2.1⟩)) | exact Or.inr (Or.inr (Or.inr (Or.inl ⟨by omega, by omega, zW, st.2.2.2.1⟩))) | exact Or.inr (Or.inr (Or.inr (Or.inr (Or.inl ⟨by omega, by omega, zJ, fun _ => st.2.2.1, st.2.2.2.1⟩)))) | exact Or.inr (Or.inr (Or.inr (Or.inr (Or.inr (Or.inl ⟨by omega, by omega, zS, st.2.2.1, st.2.2.2.1⟩))))) | exact ⟨_, _, _, Or.inl ⟨by omega, zF, rfl, rfl⟩⟩ | exact ⟨_, _, _, Or.inr (Or.inr (Or.inl ⟨by omega, by omega, zC, rfl, rfl⟩))⟩ | exact ⟨_, _, _, Or.inr (Or.inr (Or.inr (Or.inl ⟨by omega, by omega, zW, rfl⟩)))⟩ | exact ⟨_, _, _, Or.inr (Or.inr (Or.inr (Or.inr (Or.inl ⟨by omega, by omega, zJ, fun q => absurd q (by omega), rfl⟩))))⟩ | exact ⟨_, _, _, Or.inr (Or.inr (Or.inr (Or.inr (Or.inr (Or.inl ⟨by omega, by omega, zS, rfl, rfl⟩)))))⟩ | exact ⟨0, 0, 0, Or.inr (Or.inl ⟨by omega, by omega, by omega⟩)⟩ | exact ⟨0, 0, 0, Or.inr (Or.inr (Or.inr (Or.inr (Or.inr (Or.inr ⟨by omega, by omega, by omega, by omega, by omega, by omega⟩)))))⟩ | (exfalso; omega) | omega) (by first | exact Lo_h1240 | exact ⟨st.1, st.2.1, st.2.2.2.2⟩ | exact Or.inl ⟨by omega, zF, st.2.2.1, st.2.2.2.1⟩ | exact Or.inr (Or.inr (Or.inl ⟨by omega, by omega, zC, st.2.2.1, st.2.2.2.1⟩)) | exact Or.inr (Or.inr (Or.inr (Or.inl ⟨by omega, by omega, zW, st.2.2.2.1⟩))) | exact Or.inr (Or.inr (Or.inr (Or.inr (Or.inl ⟨by omega, by omega, zJ, fun _ => st.2.2.1, st.2.2.2.1⟩)))) | exact Or.inr (Or.inr (Or.inr (Or.inr (Or.inr (Or.inl ⟨by omega, by omega, zS, st.2.2.1, st.2.2.2.1⟩))))) | exact ⟨_, _, _, Or.inl ⟨by omega, zF, rfl, rfl⟩⟩ | exact ⟨_, _, _, Or.inr (Or.inr (Or.inl ⟨by omega, by omega, zC, rfl, rfl⟩))⟩ | exact ⟨_, _, _, Or.inr (Or.inr (Or.inr (Or.inl ⟨by omega, by omega, zW, rfl⟩)))⟩ | exact ⟨_, _, _, Or.inr (Or.inr (Or.inr (Or.inr (Or.inl ⟨by omega, by omega, zJ, fun q => absurd q (by omega), rfl⟩))))⟩ | exact ⟨_, _, _, Or.inr (Or.inr (Or.inr (Or.inr (Or.inr (Or.inl ⟨by omega, by omega, zS, rfl, rfl⟩)))))⟩ | exact ⟨0, 0, 0, Or.inr (Or.inl ⟨by omega, by omega, by omega⟩)⟩ | exact ⟨0, 0, 0, Or.inr (Or.inr (Or.inr (Or.inr (Or.inr (Or.inr ⟨by omega, by omega, by omega, by omega, by omega, by omega⟩)))))⟩ | (exfalso; omega) | omega) Ln_h1240 Sp_h1240 Al_h1240t1243 Cu_h1240t1244)
      ·
        show wp l rho (d + 7) 49 20 [(2, 82), (0, 1), (0, 1), (9, 0), (9, 0), (9, 0)] [(0, 1)] h Q
        rw [show wc ((6 : Nat) : Int) = 8422 from by decide] at xp1115
        refine w_istore_n (ls' := [(2, 82), (0, 1), (0, 1), (0, 1), (9, 0), (9, 0)]) gz_49_20 gm_49 rfl rfl rfl ?_
        refine w_aload_n gz_49_21 rfl ?_
        refine w_ldcS gz_49_22 (by decide) ?_
        refine w_inv (k := 1) (as := [(3, ((7 : Nat) : Int))]) (r := []) (x := 82) (ls0 := [(2, 82), (3, ((7 : Nat) : Int)), (9, 0)]) gz_49_24 gm_41 rfl is_82 rd_5 rfl rfl rfl rfl rfl (c_Reader_isWord9_f0 (d := (d + 2)) (x1 := ((7 : Nat) : Int)) (by decide) (cf.trans (by omega)) n_Cu (fun w1251 xp1252 => ?_) (fun w1253 w1254 xp1255 => ?_))
        ·
          show wp l rho (d + 7) 49 27 [(2, 82), (0, 1), (0, 1), (0, 1), (9, 0), (9, 0)] [(0, 0)] h Q
          rw [show wc ((7 : Nat) : Int) = 527412 from by decide] at xp1252
          refine w_istore (ls' := [(2, 82), (0, 1), (0, 1), (0, 1), (0, 0), (9, 0)]) gz_49_27 gm_49 rfl rfl rfl ?_
          refine w_aload_n gz_49_29 rfl ?_
          refine w_ldcS gz_49_30 (by decide) ?_
          refine w_inv (k := 1) (as := [(3, ((8 : Nat) : Int))]) (r := []) (x := 82) (ls0 := [(2, 82), (3, ((8 : Nat) : Int)), (9, 0)]) gz_49_32 gm_41 rfl is_82 rd_5 rfl rfl rfl rfl rfl (c_Reader_isWord9_f0 (d := (d + 2)) (x1 := ((8 : Nat) : Int)) (by decide) (cf.trans (by omega)) n_Cu (fun w1256 xp1257 => ?_) (fun w1258 w1259 xp1260 => ?_))
          ·
            show wp l rho (d + 7) 49 35 [(2, 82), (0, 1), (0, 1), (0, 1), (0, 0), (9, 0)] [(0, 0)] h Q
            rw [show wc ((8 : Nat) : Int) = 26801 from by decide] at xp1257
            refine w_istore (ls' := [(2, 82), (0, 1), (0, 1), (0, 1), (0, 0), (0, 0)]) gz_49_35 gm_49 rfl rfl rfl ?_
            refine w_iload_n gz_49_37 rfl ?_
            refine w_ifne (t := 65) gz_49_38 rfl (fun u1261 => ?_) (fun u1261 => by exfalso; omega)
            refine w_iload_n gz_49_65 rfl ?_
            refine w_ifne (t := 87) gz_49_66 rfl (fun u1262 => ?_) (fun u1262 => by exfalso; omega)
            refine w_aload_n gz_49_87 rfl ?_
            refine w_inv (k := 2) (as := []) (r := []) (x := 82) (ls0 := [(2, 82), (9, 0), (9, 0)]) gz_49_88 gm_37 rfl is_82 rd_5 rfl rfl rfl rfl rfl (c_Reader_nextToken9_f0 (d := (d + 5))  (cf.trans (by omega)) n_Al (fun h1263 frh1263 w1264 w1265 w1266 xp1267 xp1268 Al_h1263t1269 Cu_h1263t1270 => ?_))
            have gh1263 : my_fr [(4, 4), (4, 5), (4, 6), (4, 7), (4, 8), (4, 9), (5, 5), (5, 6), (5, 7), (5, 8), (5, 9), (32, -1), (33, -1), (34, -1), (35, -1), (36, -1), (37, -1), (38, -1), (39, -1)] h h1263 := my_fr.tr my_fr.rf (frh1263.mo rfl)
            have Ln_h1263 : Ln h1263 := Ln_ag (my_ag.fr frh1263 rfl) n_Ln
            have Sp_h1263 : Sp h1263 wv := Sp_ag (my_ag.fr frh1263 rfl) hwv n_Ln n_Sp
            have Lo_h1263 : Lo h h1263 := Lo_ag (my_ag.fr frh1263 rfl) n_Ln (Lo_rf)
            show wp l rho (d + 7) 49 91 [(2, 82), (0, 1), (0, 1), (0, 1), (0, 0), (0, 0)] [] h1263 Q
            have xc1271 := xp1267 n_Cu
            have ck1272 := Cu_s Cu_h1263t1270
            rw [show cs h1263 = cs h from cs_eq (fun j => my_fr.at gh1263 is_92 rfl) (my_fr.at gh1263 is_82 rfl)] at ck1272
            rw [show h1263 82 7 = (sN (cs h) (h 82 7)) from xc1271] at ck1272
            refine w_iload_n gz_49_91 rfl ?_
            refine w_ifeq (t := 102) gz_49_92 rfl (fun u1273 => by exfalso; omega) (fun u1273 => ?_)
            refine w_aload_n gz_49_95 rfl ?_
            refine w_inv (k := 2) (as := []) (r := []) (x := 82) (ls0 := [(2, 82), (9, 0), (9, 0)]) gz_49_96 gm_50 rfl is_82 rd_5 rfl rfl rfl rfl rfl (c_Reader_readFill9_f0 (d := (d + 3))  (((my_fr.at frh1263 is_82 rfl).trans cf).trans (by omega)) Al_h1263t1269 Cu_h1263t1270 (fun h1274 frh1274 w1275 w1276 xp1277 Al_h1274t1278 Cu_h1274t1279 => ?_) (fun h1280 frh1280 w1281 xp1282 Al_h1280t1283 Cu_h1280t1284 => ?_))
            ·
              have gh1274 : my_fr [(4, 4), (4, 5), (4, 6), (4, 7), (4, 8), (4, 9), (5, 5), (5, 6), (5, 7), (5, 8), (5, 9), (32, -1), (33, -1), (34, -1), (35, -1), (36, -1), (37, -1), (38, -1), (39, -1)] h h1274 := my_fr.tr gh1263 (frh1274.mo rfl)
              have Ln_h1274 : Ln h1274 := Ln_ag (my_ag.fr frh1274 rfl) Ln_h1263
              have Sp_h1274 : Sp h1274 wv := Sp_ag (my_ag.fr frh1274 rfl) hwv Ln_h1263 Sp_h1263
              have Lo_h1274 : Lo h h1274 := Lo_ag (my_ag.fr frh1274 rfl) Ln_h1263 Lo_h1263
              show wp l rho (d + 7) 49 99 [(2, 82), (0, 1), (0, 1), (0, 1), (0, 0), (0, 0)] [] h1274 Q
              have tE1285 : cs h1263 = cs h := cs_eq (fun j => my_fr.at gh1263 is_92 rfl) (my_fr.at gh1263 is_82 rfl)
              rw [tE1285] at xp1277
              have ps1286 : h1263 82 7 = (sN (cs h) (h 82 7)) := xc1271
              rw [ps1286] at xp1277
              have q2 : h1263 82 2 = h 82 2 := my_fr.at frh1263 is_82 rfl
              have q11 : h1263 (h 82 2) 1 = h (h 82 2) 1 := my_fr.at frh1263 n_Ln.2.2.2.1 rfl
              have q13 : h1263 (h 82 2) 3 = h (h 82 2) 3 := my_fr.at frh1263 n_Ln.2.2.2.1 rfl
              have q14 : h1263 (h 82 2) 4 = h (h 82 2) 4 := my_fr.at frh1263 n_Ln.2.2.2.1 rfl
              have q19 : h1263 (h 82 2) 9 = h (h 82 2) 9 := my_fr.at frh1263 n_Ln.2.2.2.1 rfl
              have qc : h1263 2 = h 2 := funext (fun j => my_fr.at frh1263 is_2 rfl)
              have zF := xp1277
              simp only [q2, q11, q13, q14, q19, qc] at zF
              have st : h1274 82 2 = h 82 2 ∧ h1274 (h 82 2) 3 = h (h 82 2) 3 ∧ h1274 (h 82 2) 4 = h (h 82 2) 4 ∧ h1274 (h 82 2) 9 = h (h 82 2) 9 ∧ h1274 (h 82 2) 1 = h (h 82 2) 1 := ⟨(my_fr.at frh1274 is_82 rfl).trans q2, (my_fr.at frh1274 n_Ln.2.2.2.1 rfl).trans q13, (my_fr.at frh1274 n_Ln.2.2.2.1 rfl).trans q14, (my_fr.at frh1274 n_Ln.2.2.2.1 rfl).trans q19, (my_fr.at frh1274 n_Ln.2.2.2.1 rfl).trans q11⟩
              refine w_goto (t := 140) gz_49_99 rfl ?_
              have psR : h1274 82 7 = h1274 82 7 := (rfl : h1274 82 7 = h1274 82 7)
              have npsR : cs h1274 = cs h := cs_eq (fun j => my_fr.at gh1274 is_92 rfl) (my_fr.at gh1274 is_82 rfl)
              have c1287 := (rfl : h1274 82 9 = h1274 82 9)
              exact w_vret gz_49_140 gm_49 (k0 h1274 (gh1274) (by omega) (by omega) (by first | exact Lo_h1274 | exact ⟨st.1, st.2.1, st.2.2.2.2⟩ | exact Or.inl ⟨by omega, zF, st.2.2.1, st.2.2.2.1⟩ | exact Or.inr (Or.inr (Or.inl ⟨by omega, by omega, zC, st.2.2.1, st.2.2.2.1⟩)) | exact Or.inr (Or.inr (Or.inr (Or.inl ⟨by omega, by omega, zW, st.2.2.2.1⟩))) | exact Or.inr (Or.inr (Or.inr (Or.inr (Or.inl ⟨by omega, by omega, zJ, fun _ => st.2.2.1, st.2.2.2.1⟩)))) | exact Or.inr (Or.inr (Or.inr (Or.inr (Or.inr (Or.inl ⟨by omega, by omega, zS, st.2.2.1, st.2.2.2.1⟩))))) | exact ⟨_, _, _, Or.inl ⟨by omega, zF, rfl, rfl⟩⟩ | exact ⟨_, _, _, Or.inr (Or.inr (Or.inl ⟨by omega, by omega, zC, rfl, rfl⟩))⟩ | exact ⟨_, _, _, Or.inr (Or.inr (Or.inr (Or.inl ⟨by omega, by omega, zW, rfl⟩)))⟩ | exact ⟨_, _, _, Or.inr (Or.inr (Or.inr (Or.inr (Or.inl ⟨by omega, by omega, zJ, fun q => absurd q (by omega), rfl⟩))))⟩ | exact ⟨_, _, _, Or.inr (Or.inr (Or.inr (Or.inr (Or.inr (Or.inl ⟨by omega, by omega, zS, rfl, rfl⟩)))))⟩ | exact ⟨0, 0, 0, Or.inr (Or.inl ⟨by omega, by omega, by omega⟩)⟩ | exact ⟨0, 0, 0, Or.inr (Or.inr (Or.inr (Or.inr (Or.inr (Or.inr ⟨by omega, by omega, by omega, by omega, by omega, by omega⟩)))))⟩ | (exfalso; omega) | omega) (by first | exact Lo_h1274 | exact ⟨st.1, st.2.1, st.2.2.2.2⟩ | exact Or.inl ⟨by omega, zF, st.2.2.1, st.2.2.2.1⟩ | exact Or.inr (Or.inr (Or.inl ⟨by omega, by omega, zC, st.2.2.1, st.2.2.2.1⟩)) | exact Or.inr (Or.inr (Or.inr (Or.inl ⟨by omega, by omega, zW, st.2.2.2.1⟩))) | exact Or.inr (Or.inr (Or.inr (Or.inr (Or.inl ⟨by omega, by omega, zJ, fun _ => st.2.2.1, st.2.2.2.1⟩)))) | exact Or.inr (Or.inr (Or.inr (Or.inr (Or.inr (Or.inl ⟨by omega, by omega, zS, st.2.2.1, st.2.2.2.1⟩))))) | exact ⟨_, _, _, Or.inl ⟨by omega, zF, rfl, rfl⟩⟩ | exact ⟨_, _, _, Or.inr (Or.inr (Or.inl ⟨by omega, by omega, zC, rfl, rfl⟩))⟩ | exact ⟨_, _, _, Or.inr (Or.inr (Or.inr (Or.inl ⟨by omega, by omega, zW, rfl⟩)))⟩ | exact ⟨_, _, _, Or.inr (Or.inr (Or.inr (Or.inr (Or.inl ⟨by omega, by omega, zJ, fun q => absurd q (by omega), rfl⟩))))⟩ | exact ⟨_, _, _, Or.inr (Or.inr (Or.inr (Or.inr (Or.inr (Or.inl ⟨by omega, by omega, zS, rfl, rfl⟩)))))⟩ | exact ⟨0, 0, 0, Or.inr (Or.inl ⟨by omega, by omega, by omega⟩)⟩ | exact ⟨0, 0, 0, Or.inr (Or.inr (Or.inr (Or.inr (Or.inr (Or.inr ⟨by omega, by omega, by omega, by omega, by omega, by omega⟩)))))⟩ | (exfalso; omega) | omega) Ln_h1274 Sp_h1274 Al_h1274t1278 Cu_h1274t1279)
            ·
              have gh1280 : my_fr [(4, 4), (4, 5), (4, 6), (4, 7), (4, 8), (4, 9), (5, 5), (5, 6), (5, 7), (5, 8), (5, 9), (32, -1), (33, -1), (34, -1), (35, -1), (36, -1), (37, -1), (38, -1), (39, -1)] h h1280 := my_fr.tr gh1263 (frh1280.mo rfl)
              have Ln_h1280 : Ln h1280 := Ln_ag (my_ag.fr frh1280 rfl) Ln_h1263
              have Sp_h1280 : Sp h1280 wv := Sp_ag (my_ag.fr frh1280 rfl) hwv Ln_h1263 Sp_h1263
              have Lo_h1280 : Lo h h1280 := Lo_ag (my_ag.fr frh1280 rfl) Ln_h1263 Lo_h1263
              show wp l rho (d + 7) 49 99 [(2, 82), (0, 1), (0, 1), (0, 1), (0, 0), (0, 0)] [] h1280 Q
              have tE1288 : cs h1263 = cs h := cs_eq (fun j => my_fr.at gh1263 is_92 rfl) (my_fr.at gh1263 is_82 rfl)
              rw [tE1288] at xp1282
              have ps1289 : h1263 82 7 = (sN (cs h) (h 82 7)) := xc1271
              rw [ps1289] at xp1282
              have q2 : h1263 82 2 = h 82 2 := my_fr.at frh1263 is_82 rfl
              have q11 : h1263 (h 82 2) 1 = h (h 82 2) 1 := my_fr.at frh1263 n_Ln.2.2.2.1 rfl
              have q13 : h1263 (h 82 2) 3 = h (h 82 2) 3 := my_fr.at frh1263 n_Ln.2.2.2.1 rfl
              have q14 : h1263 (h 82 2) 4 = h (h 82 2) 4 := my_fr.at frh1263 n_Ln.2.2.2.1 rfl
              have q19 : h1263 (h 82 2) 9 = h (h 82 2) 9 := my_fr.at frh1263 n_Ln.2.2.2.1 rfl
              have qc : h1263 2 = h 2 := funext (fun j => my_fr.at frh1263 is_2 rfl)
              have zF := xp1282
              simp only [q2, q11, q13, q14, q19, qc] at zF
              have st : h1280 82 2 = h 82 2 ∧ h1280 (h 82 2) 3 = h (h 82 2) 3 ∧ h1280 (h 82 2) 4 = h (h 82 2) 4 ∧ h1280 (h 82 2) 9 = h (h 82 2) 9 ∧ h1280 (h 82 2) 1 = h (h 82 2) 1 := ⟨(my_fr.at frh1280 is_82 rfl).trans q2, (my_fr.at frh1280 n_Ln.2.2.2.1 rfl).trans q13, (my_fr.at frh1280 n_Ln.2.2.2.1 rfl).trans q14, (my_fr.at frh1280 n_Ln.2.2.2.1 rfl).trans q19, (my_fr.at frh1280 n_Ln.2.2.2.1 rfl).trans q11⟩
              refine w_goto (t := 140) gz_49_99 rfl ?_
              have psR : h1280 82 7 = h1280 82 7 := (rfl : h1280 82 7 = h1280 82 7)
              have npsR : cs h1280 = cs h := cs_eq (fun j => my_fr.at gh1280 is_92 rfl) (my_fr.at gh1280 is_82 rfl)
              have c1290 := w1281
              exact w_vret gz_49_140 gm_49 (k1 h1280 (gh1280) (by omega) (by first | exact Lo_h1280 | exact ⟨st.1, st.2.1, st.2.2.2.2⟩ | exact Or.inl ⟨by omega, zF, st.2.2.1, st.2.2.2.1⟩ | exact Or.inr (Or.inr (Or.inl ⟨by omega, by omega, zC, st.2.2.1, st.2.2.2.1⟩)) | exact Or.inr (Or.inr (Or.inr (Or.inl ⟨by omega, by omega, zW, st.2.2.2.1⟩))) | exact Or.inr (Or.inr (Or.inr (Or.inr (Or.inl ⟨by omega, by omega, zJ, fun _ => st.2.2.1, st.2.2.2.1⟩)))) | exact Or.inr (Or.inr (Or.inr (Or.inr (Or.inr (Or.inl ⟨by omega, by omega, zS, st.2.2.1, st.2.2.2.1⟩))))) | exact ⟨_, _, _, Or.inl ⟨by omega, zF, rfl, rfl⟩⟩ | exact ⟨_, _, _, Or.inr (Or.inr (Or.inl ⟨by omega, by omega, zC, rfl, rfl⟩))⟩ | exact ⟨_, _, _, Or.inr (Or.inr (Or.inr (Or.inl ⟨by omega, by omega, zW, rfl⟩)))⟩ | exact ⟨_, _, _, Or.inr (Or.inr (Or.inr (Or.inr (Or.inl ⟨by omega, by omega, zJ, fun q => absurd q (by omega), rfl⟩))))⟩ | exact ⟨_, _, _, Or.inr (Or.inr (Or.inr (Or.inr (Or.inr (Or.inl ⟨by omega, by omega, zS, rfl, rfl⟩)))))⟩ | exact ⟨0, 0, 0, Or.inr (Or.inl ⟨by omega, by omega, by omega⟩)⟩ | exact ⟨0, 0, 0, Or.inr (Or.inr (Or.inr (Or.inr (Or.inr (Or.inr ⟨by omega, by omega, by omega, by omega, by omega, by omega⟩)))))⟩ | (exfalso; omega) | omega) (by first | exact Lo_h1280 | exact ⟨st.1, st.2.1, st.2.2.2.2⟩ | exact Or.inl ⟨by omega, zF, st.2.2.1, st.2.2.2.1⟩ | exact Or.inr (Or.inr (Or.inl ⟨by omega, by omega, zC, st.2.2.1, st.2.2.2.1⟩)) | exact Or.inr (Or.inr (Or.inr (Or.inl ⟨by omega, by omega, zW, st.2.2.2.1⟩))) | exact Or.inr (Or.inr (Or.inr (Or.inr (Or.inl ⟨by omega, by omega, zJ, fun _ => st.2.2.1, st.2.2.2.1⟩)))) | exact Or.inr (Or.inr (Or.inr (Or.inr (Or.inr (Or.inl ⟨by omega, by omega, zS, st.2.2.1, st.2.2.2.1⟩))))) | exact ⟨_, _, _, Or.inl ⟨by omega, zF, rfl, rfl⟩⟩ | exact ⟨_, _, _, Or.inr (Or.inr (Or.inl ⟨by omega, by omega, zC, rfl, rfl⟩))⟩ | exact ⟨_, _, _, Or.inr (Or.inr (Or.inr (Or.inl ⟨by omega, by omega, zW, rfl⟩)))⟩ | exact ⟨_, _, _, Or.inr (Or.inr (Or.inr (Or.inr (Or.inl ⟨by omega, by omega, zJ, fun q => absurd q (by omega), rfl⟩))))⟩ | exact ⟨_, _, _, Or.inr (Or.inr (Or.inr (Or.inr (Or.inr (Or.inl ⟨by omega, by omega, zS, rfl, rfl⟩)))))⟩ | exact ⟨0, 0, 0, Or.inr (Or.inl ⟨by omega, by omega, by omega⟩)⟩ | exact ⟨0, 0, 0, Or.inr (Or.inr (Or.inr (Or.inr (Or.inr (Or.inr ⟨by omega, by omega, by omega, by omega, by omega, by omega⟩)))))⟩ | (exfalso; omega) | omega) (by first | exact Lo_h1280 | exact ⟨st.1, st.2.1, st.2.2.2.2⟩ | exact Or.inl ⟨by omega, zF, st.2.2.1, st.2.2.2.1⟩ | exact Or.inr (Or.inr (Or.inl ⟨by omega, by omega, zC, st.2.2.1, st.2.2.2.1⟩)) | exact Or.inr (Or.inr (Or.inr (Or.inl ⟨by omega, by omega, zW, st.2.2.2.1⟩))) | exact Or.inr (Or.inr (Or.inr (Or.inr (Or.inl ⟨by omega, by omega, zJ, fun _ => st.2.2.1, st.2.2.2.1⟩)))) | exact Or.inr (Or.inr (Or.inr (Or.inr (Or.inr (Or.inl ⟨by omega, by omega, zS, st.2.2.1, st.2.2.2.1⟩))))) | exact ⟨_, _, _, Or.inl ⟨by omega, zF, rfl, rfl⟩⟩ | exact ⟨_, _, _, Or.inr (Or.inr (Or.inl ⟨by omega, by omega, zC, rfl, rfl⟩))⟩ | exact ⟨_, _, _, Or.inr (Or.inr (Or.inr (Or.inl ⟨by omega, by omega, zW, rfl⟩)))⟩ | exact ⟨_, _, _, Or.inr (Or.inr (Or.inr (Or.inr (Or.inl ⟨by omega, by omega, zJ, fun q => absurd q (by omega), rfl⟩))))⟩ | exact ⟨_, _, _, Or.inr (Or.inr (Or.inr (Or.inr (Or.inr (Or.inl ⟨by omega, by omega, zS, rfl, rfl⟩)))))⟩ | exact ⟨0, 0, 0, Or.inr (Or.inl ⟨by omega, by omega, by omega⟩)⟩ | exact ⟨0, 0, 0, Or.inr (Or.inr (Or.inr (Or.inr (Or.inr (Or.inr ⟨by omega, by omega, by omega, by omega, by omega, by omega⟩)))))⟩ | (exfalso; omega) | omega) Ln_h1280 Sp_h1280 Al_h1280t1283 Cu_h1280t1284)
          ·
            show wp l rho (d + 7) 49 35 [(2, 82), (0, 1), (0, 1), (0, 1), (0, 0), (9, 0)] [(0, 1)] h Q
            rw [show wc ((8 : Nat) : Int) = 26801 from by decide] at xp1260
            refine w_istore (ls' := [(2, 82), (0, 1), (0, 1), (0, 1), (0, 0), (0, 1)]) gz_49_35 gm_49 rfl rfl rfl ?_
            refine w_iload_n gz_49_37 rfl ?_
            refine w_ifne (t := 65) gz_49_38 rfl (fun u1291 => ?_) (fun u1291 => by exfalso; omega)
            refine w_iload_n gz_49_65 rfl ?_
            refine w_ifne (t := 87) gz_49_66 rfl (fun u1292 => ?_) (fun u1292 => by exfalso; omega)
            refine w_aload_n gz_49_87 rfl ?_
            refine w_inv (k := 2) (as := []) (r := []) (x := 82) (ls0 := [(2, 82), (9, 0), (9, 0)]) gz_49_88 gm_37 rfl is_82 rd_5 rfl rfl rfl rfl rfl (c_Reader_nextToken9_f0 (d := (d + 5))  (cf.trans (by omega)) n_Al (fun h1293 frh1293 w1294 w1295 w1296 xp1297 xp1298 Al_h1293t1299 Cu_h1293t1300 => ?_))
            have gh1293 : my_fr [(4, 4), (4, 5), (4, 6), (4, 7), (4, 8), (4, 9), (5, 5), (5, 6), (5, 7), (5, 8), (5, 9), (32, -1), (33, -1), (34, -1), (35, -1), (36, -1), (37, -1), (38, -1), (39, -1)] h h1293 := my_fr.tr my_fr.rf (frh1293.mo rfl)
            have Ln_h1293 : Ln h1293 := Ln_ag (my_ag.fr frh1293 rfl) n_Ln
            have Sp_h1293 : Sp h1293 wv := Sp_ag (my_ag.fr frh1293 rfl) hwv n_Ln n_Sp
            have Lo_h1293 : Lo h h1293 := Lo_ag (my_ag.fr frh1293 rfl) n_Ln (Lo_rf)
            show wp l rho (d + 7) 49 91 [(2, 82), (0, 1), (0, 1), (0, 1), (0, 0), (0, 1)] [] h1293 Q
            have xc1301 := xp1297 n_Cu
            have ck1302 := Cu_s Cu_h1293t1300
            rw [show cs h1293 = cs h from cs_eq (fun j => my_fr.at gh1293 is_92 rfl) (my_fr.at gh1293 is_82 rfl)] at ck1302
            rw [show h1293 82 7 = (sN (cs h) (h 82 7)) from xc1301] at ck1302
            refine w_iload_n gz_49_91 rfl ?_
            refine w_ifeq (t := 102) gz_49_92 rfl (fun u1303 => by exfalso; omega) (fun u1303 => ?_)
            refine w_aload_n gz_49_95 rfl ?_
            refine w_inv (k := 2) (as := []) (r := []) (x := 82) (ls0 := [(2, 82), (9, 0), (9, 0)]) gz_49_96 gm_50 rfl is_82 rd_5 rfl rfl rfl rfl rfl (c_Reader_readFill9_f0 (d := (d + 3))  (((my_fr.at frh1293 is_82 rfl).trans cf).trans (by omega)) Al_h1293t1299 Cu_h1293t1300 (fun h1304 frh1304 w1305 w1306 xp1307 Al_h1304t1308 Cu_h1304t1309 => ?_) (fun h1310 frh1310 w1311 xp1312 Al_h1310t1313 Cu_h1310t1314 => ?_))
            ·
              have gh1304 : my_fr [(4, 4), (4, 5), (4, 6), (4, 7), (4, 8), (4, 9), (5, 5), (5, 6), (5, 7), (5, 8), (5, 9), (32, -1), (33, -1), (34, -1), (35, -1), (36, -1), (37, -1), (38, -1), (39, -1)] h h1304 := my_fr.tr gh1293 (frh1304.mo rfl)
              have Ln_h1304 : Ln h1304 := Ln_ag (my_ag.fr frh1304 rfl) Ln_h1293
              have Sp_h1304 : Sp h1304 wv := Sp_ag (my_ag.fr frh1304 rfl) hwv Ln_h1293 Sp_h1293
              have Lo_h1304 : Lo h h1304 := Lo_ag (my_ag.fr frh1304 rfl) Ln_h1293 Lo_h1293
              show wp l rho (d + 7) 49 99 [(2, 82), (0, 1), (0, 1), (0, 1), (0, 0), (0, 1)] [] h1304 Q
              have tE1315 : cs h1293 = cs h := cs_eq (fun j => my_fr.at gh1293 is_92 rfl) (my_fr.at gh1293 is_82 rfl)
              rw [tE1315] at xp1307
              have ps1316 : h1293 82 7 = (sN (cs h) (h 82 7)) := xc1301
              rw [ps1316] at xp1307
              have q2 : h1293 82 2 = h 82 2 := my_fr.at frh1293 is_82 rfl
              have q11 : h1293 (h 82 2) 1 = h (h 82 2) 1 := my_fr.at frh1293 n_Ln.2.2.2.1 rfl
              have q13 : h1293 (h 82 2) 3 = h (h 82 2) 3 := my_fr.at frh1293 n_Ln.2.2.2.1 rfl
              have q14 : h1293 (h 82 2) 4 = h (h 82 2) 4 := my_fr.at frh1293 n_Ln.2.2.2.1 rfl
              have q19 : h1293 (h 82 2) 9 = h (h 82 2) 9 := my_fr.at frh1293 n_Ln.2.2.2.1 rfl
              have qc : h1293 2 = h 2 := funext (fun j => my_fr.at frh1293 is_2 rfl)
              have zF := xp1307
              simp only [q2, q11, q13, q14, q19, qc] at zF
              have st : h1304 82 2 = h 82 2 ∧ h1304 (h 82 2) 3 = h (h 82 2) 3 ∧ h1304 (h 82 2) 4 = h (h 82 2) 4 ∧ h1304 (h 82 2) 9 = h (h 82 2) 9 ∧ h1304 (h 82 2) 1 = h (h 82 2) 1 := ⟨(my_fr.at frh1304 is_82 rfl).trans q2, (my_fr.at frh1304 n_Ln.2.2.2.1 rfl).trans q13, (my_fr.at frh1304 n_Ln.2.2.2.1 rfl).trans q14, (my_fr.at frh1304 n_Ln.2.2.2.1 rfl).trans q19, (my_fr.at frh1304 n_Ln.2.2.2.1 rfl).trans q11⟩
              refine w_goto (t := 140) gz_49_99 rfl ?_
              have psR : h1304 82 7 = h1304 82 7 := (rfl : h1304 82 7 = h1304 82 7)
              have npsR : cs h1304 = cs h := cs_eq (fun j => my_fr.at gh1304 is_92 rfl) (my_fr.at gh1304 is_82 rfl)
              have c1317 := (rfl : h1304 82 9 = h1304 82 9)
              exact w_vret gz_49_140 gm_49 (k0 h1304 (gh1304) (by omega) (by omega) (by first | exact Lo_h1304 | exact ⟨st.1, st.2.1, st.2.2.2.2⟩ | exact Or.inl ⟨by omega, zF, st.2.2.1, st.2.2.2.1⟩ | exact Or.inr (Or.inr (Or.inl ⟨by omega, by omega, zC, st.2.2.1, st.2.2.2.1⟩)) | exact Or.inr (Or.inr (Or.inr (Or.inl ⟨by omega, by omega, zW, st.2.2.2.1⟩))) | exact Or.inr (Or.inr (Or.inr (Or.inr (Or.inl ⟨by omega, by omega, zJ, fun _ => st.2.2.1, st.2.2.2.1⟩)))) | exact Or.inr (Or.inr (Or.inr (Or.inr (Or.inr (Or.inl ⟨by omega, by omega, zS, st.2.2.1, st.2.2.2.1⟩))))) | exact ⟨_, _, _, Or.inl ⟨by omega, zF, rfl, rfl⟩⟩ | exact ⟨_, _, _, Or.inr (Or.inr (Or.inl ⟨by omega, by omega, zC, rfl, rfl⟩))⟩ | exact ⟨_, _, _, Or.inr (Or.inr (Or.inr (Or.inl ⟨by omega, by omega, zW, rfl⟩)))⟩ | exact ⟨_, _, _, Or.inr (Or.inr (Or.inr (Or.inr (Or.inl ⟨by omega, by omega, zJ, fun q => absurd q (by omega), rfl⟩))))⟩ | exact ⟨_, _, _, Or.inr (Or.inr (Or.inr (Or.inr (Or.inr (Or.inl ⟨by omega, by omega, zS, rfl, rfl⟩)))))⟩ | exact ⟨0, 0, 0, Or.inr (Or.inl ⟨by omega, by omega, by omega⟩)⟩ | exact ⟨0, 0, 0, Or.inr (Or.inr (Or.inr (Or.inr (Or.inr (Or.inr ⟨by omega, by omega, by omega, by omega, by omega, by omega⟩)))))⟩ | (exfalso; omega) | omega) (by first | exact Lo_h1304 | exact ⟨st.1, st.2.1, st.2.2.2.2⟩ | exact Or.inl ⟨by omega, zF, st.2.2.1, st.2.2.2.1⟩ | exact Or.inr (Or.inr (Or.inl ⟨by omega, by omega, zC, st.2.2.1, st.2.2.2.1⟩)) | exact Or.inr (Or.inr (Or.inr (Or.inl ⟨by omega, by omega, zW, st.2.2.2.1⟩))) | exact Or.inr (Or.inr (Or.inr (Or.inr (Or.inl ⟨by omega, by omega, zJ, fun _ => st.2.2.1, st.2.2.2.1⟩)))) | exact Or.inr (Or.inr (Or.inr (Or.inr (Or.inr (Or.inl ⟨by omega, by omega, zS, st.2.2.1, st.2.2.2.1⟩))))) | exact ⟨_, _, _, Or.inl ⟨by omega, zF, rfl, rfl⟩⟩ | exact ⟨_, _, _, Or.inr (Or.inr (Or.inl ⟨by omega, by omega, zC, rfl, rfl⟩))⟩ | exact ⟨_, _, _, Or.inr (Or.inr (Or.inr (Or.inl ⟨by omega, by omega, zW, rfl⟩)))⟩ | exact ⟨_, _, _, Or.inr (Or.inr (Or.inr (Or.inr (Or.inl ⟨by omega, by omega, zJ, fun q => absurd q (by omega), rfl⟩))))⟩ | exact ⟨_, _, _, Or.inr (Or.inr (Or.inr (Or.inr (Or.inr (Or.inl ⟨by omega, by omega, zS, rfl, rfl⟩)))))⟩ | exact ⟨0, 0, 0, Or.inr (Or.inl ⟨by omega, by omega, by omega⟩)⟩ | exact ⟨0, 0, 0, Or.inr (Or.inr (Or.inr (Or.inr (Or.inr (Or.inr ⟨by omega, by omega, by omega, by omega, by omega, by omega⟩)))))⟩ | (exfalso; omega) | omega) Ln_h1304 Sp_h1304 Al_h1304t1308 Cu_h1304t1309)
            ·
              have gh1310 : my_fr [(4, 4), (4, 5), (4, 6), (4, 7), (4, 8), (4, 9), (5, 5), (5, 6), (5, 7), (5, 8), (5, 9), (32, -1), (33, -1), (34, -1), (35, -1), (36, -1), (37, -1), (38, -1), (39, -1)] h h1310 := my_fr.tr gh1293 (frh1310.mo rfl)
              have Ln_h1310 : Ln h1310 := Ln_ag (my_ag.fr frh1310 rfl) Ln_h1293
              have Sp_h1310 : Sp h1310 wv := Sp_ag (my_ag.fr frh1310 rfl) hwv Ln_h1293 Sp_h1293
              have Lo_h1310 : Lo h h1310 := Lo_ag (my_ag.fr frh1310 rfl) Ln_h1293 Lo_h1293
              show wp l rho (d + 7) 49 99 [(2, 82), (0, 1), (0, 1), (0, 1), (0, 0), (0, 1)] [] h1310 Q
              have tE1318 : cs h1293 = cs h := cs_eq (fun j => my_fr.at gh1293 is_92 rfl) (my_fr.at gh1293 is_82 rfl)
              rw [tE1318] at xp1312
              have ps1319 : h1293 82 7 = (sN (cs h) (h 82 7)) := xc1301
              rw [ps1319] at xp1312
              have q2 : h1293 82 2 = h 82 2 := my_fr.at frh1293 is_82 rfl
              have q11 : h1293 (h 82 2) 1 = h (h 82 2) 1 := my_fr.at frh1293 n_Ln.2.2.2.1 rfl
              have q13 : h1293 (h 82 2) 3 = h (h 82 2) 3 := my_fr.at frh1293 n_Ln.2.2.2.1 rfl
              have q14 : h1293 (h 82 2) 4 = h (h 82 2) 4 := my_fr.at frh1293 n_Ln.2.2.2.1 rfl
              have q19 : h1293 (h 82 2) 9 = h (h 82 2) 9 := my_fr.at frh1293 n_Ln.2.2.2.1 rfl
              have qc : h1293 2 = h 2 := funext (fun j => my_fr.at frh1293 is_2 rfl)
              have zF := xp1312
              simp only [q2, q11, q13, q14, q19, qc] at zF
              have st : h1310 82 2 = h 82 2 ∧ h1310 (h 82 2) 3 = h (h 82 2) 3 ∧ h1310 (h 82 2) 4 = h (h 82 2) 4 ∧ h1310 (h 82 2) 9 = h (h 82 2) 9 ∧ h1310 (h 82 2) 1 = h (h 82 2) 1 := ⟨(my_fr.at frh1310 is_82 rfl).trans q2, (my_fr.at frh1310 n_Ln.2.2.2.1 rfl).trans q13, (my_fr.at frh1310 n_Ln.2.2.2.1 rfl).trans q14, (my_fr.at frh1310 n_Ln.2.2.2.1 rfl).trans q19, (my_fr.at frh1310 n_Ln.2.2.2.1 rfl).trans q11⟩
              refine w_goto (t := 140) gz_49_99 rfl ?_
              have psR : h1310 82 7 = h1310 82 7 := (rfl : h1310 82 7 = h1310 82 7)
              have npsR : cs h1310 = cs h := cs_eq (fun j => my_fr.at gh1310 is_92 rfl) (my_fr.at gh1310 is_82 rfl)
              have c1320 := w1311
              exact w_vret gz_49_140 gm_49 (k1 h1310 (gh1310) (by omega) (by first | exact Lo_h1310 | exact ⟨st.1, st.2.1, st.2.2.2.2⟩ | exact Or.inl ⟨by omega, zF, st.2.2.1, st.2.2.2.1⟩ | exact Or.inr (Or.inr (Or.inl ⟨by omega, by omega, zC, st.2.2.1, st.2.2.2.1⟩)) | exact Or.inr (Or.inr (Or.inr (Or.inl ⟨by omega, by omega, zW, st.2.2.2.1⟩))) | exact Or.inr (Or.inr (Or.inr (Or.inr (Or.inl ⟨by omega, by omega, zJ, fun _ => st.2.2.1, st.2.2.2.1⟩)))) | exact Or.inr (Or.inr (Or.inr (Or.inr (Or.inr (Or.inl ⟨by omega, by omega, zS, st.2.2.1, st.2.2.2.1⟩))))) | exact ⟨_, _, _, Or.inl ⟨by omega, zF, rfl, rfl⟩⟩ | exact ⟨_, _, _, Or.inr (Or.inr (Or.inl ⟨by omega, by omega, zC, rfl, rfl⟩))⟩ | exact ⟨_, _, _, Or.inr (Or.inr (Or.inr (Or.inl ⟨by omega, by omega, zW, rfl⟩)))⟩ | exact ⟨_, _, _, Or.inr (Or.inr (Or.inr (Or.inr (Or.inl ⟨by omega, by omega, zJ, fun q => absurd q (by omega), rfl⟩))))⟩ | exact ⟨_, _, _, Or.inr (Or.inr (Or.inr (Or.inr (Or.inr (Or.inl ⟨by omega, by omega, zS, rfl, rfl⟩)))))⟩ | exact ⟨0, 0, 0, Or.inr (Or.inl ⟨by omega, by omega, by omega⟩)⟩ | exact ⟨0, 0, 0, Or.inr (Or.inr (Or.inr (Or.inr (Or.inr (Or.inr ⟨by omega, by omega, by omega, by omega, by omega, by omega⟩)))))⟩ | (exfalso; omega) | omega) (by first | exact Lo_h1310 | exact ⟨st.1, st.2.1, st.2.2.2.2⟩ | exact Or.inl ⟨by omega, zF, st.2.2.1, st.2.2.2.1⟩ | exact Or.inr (Or.inr (Or.inl ⟨by omega, by omega, zC, st.2.2.1, st.2.2.2.1⟩)) | exact Or.inr (Or.inr (Or.inr (Or.inl ⟨by omega, by omega, zW, st.2.2.2.1⟩))) | exact Or.inr (Or.inr (Or.inr (Or.inr (Or.inl ⟨by omega, by omega, zJ, fun _ => st.2.2.1, st.2.2.2.1⟩)))) | exact Or.inr (Or.inr (Or.inr (Or.inr (Or.inr (Or.inl ⟨by omega, by omega, zS, st.2.2.1, st.2.2.2.1⟩))))) | exact ⟨_, _, _, Or.inl ⟨by omega, zF, rfl, rfl⟩⟩ | exact ⟨_, _, _, Or.inr (Or.inr (Or.inl ⟨by omega, by omega, zC, rfl, rfl⟩))⟩ | exact ⟨_, _, _, Or.inr (Or.inr (Or.inr (Or.inl ⟨by omega, by omega, zW, rfl⟩)))⟩ | exact ⟨_, _, _, Or.inr (Or.inr (Or.inr (Or.inr (Or.inl ⟨by omega, by omega, zJ, fun q => absurd q (by omega), rfl⟩))))⟩ | exact ⟨_, _, _, Or.inr (Or.inr (Or.inr (Or.inr (Or.inr (Or.inl ⟨by omega, by omega, zS, rfl, rfl⟩)))))⟩ | exact ⟨0, 0, 0, Or.inr (Or.inl ⟨by omega, by omega, by omega⟩)⟩ | exact ⟨0, 0, 0, Or.inr (Or.inr (Or.inr (Or.inr (Or.inr (Or.inr ⟨by omega, by omega, by omega, by omega, by omega, by omega⟩)))))⟩ | (exfalso; omega) | omega) (by first | exact Lo_h1310 | exact ⟨st.1, st.2.1, st.2.2.2.2⟩ | exact Or.inl ⟨by omega, zF, st.2.2.1, st.2.2.2.1⟩ | exact Or.inr (Or.inr (Or.inl ⟨by omega, by omega, zC, st.2.2.1, st.2.2.2.1⟩)) | exact Or.inr (Or.inr (Or.inr (Or.inl ⟨by omega, by omega, zW, st.2.2.2.1⟩))) | exact Or.inr (Or.inr (Or.inr (Or.inr (Or.inl ⟨by omega, by omega, zJ, fun _ => st.2.2.1, st.2.2.2.1⟩)))) | exact Or.inr (Or.inr (Or.inr (Or.inr (Or.inr (Or.inl ⟨by omega, by omega, zS, st.2.2.1, st.2.2.2.1⟩))))) | exact ⟨_, _, _, Or.inl ⟨by omega, zF, rfl, rfl⟩⟩ | exact ⟨_, _, _, Or.inr (Or.inr (Or.inl ⟨by omega, by omega, zC, rfl, rfl⟩))⟩ | exact ⟨_, _, _, Or.inr (Or.inr (Or.inr (Or.inl ⟨by omega, by omega, zW, rfl⟩)))⟩ | exact ⟨_, _, _, Or.inr (Or.inr (Or.inr (Or.inr (Or.inl ⟨by omega, by omega, zJ, fun q => absurd q (by omega), rfl⟩))))⟩ | exact ⟨_, _, _, Or.inr (Or.inr (Or.inr (Or.inr (Or.inr (Or.inl ⟨by omega, by omega, zS, rfl, rfl⟩)))))⟩ | exact ⟨0, 0, 0, Or.inr (Or.inl ⟨by omega, by omega, by omega⟩)⟩ | exact ⟨0, 0, 0, Or.inr (Or.inr (Or.inr (Or.inr (Or.inr (Or.inr ⟨by omega, by omega, by omega, by omega, by omega, by omega⟩)))))⟩ | (exfalso; omega) | omega) Ln_h1310 Sp_h1310 Al_h1310t1313 Cu_h1310t1314)
        ·
          show wp l rho (d + 7) 49 27 [(2, 82), (0, 1), (0, 1), (0, 1), (9, 0), (9, 0)] [(0, 1)] h Q
          rw [show wc ((7 : Nat) : Int) = 527412 from by decide] at xp1255
          refine w_istore (ls' := [(2, 82), (0, 1), (0, 1), (0, 1), (0, 1), (9, 0)]) gz_49_27 gm_49 rfl rfl rfl ?_
          refine w_aload_n gz_49_29 rfl ?_
          refine w_ldcS gz_49_30 (by decide) ?_
          refine w_inv (k := 1) (as := [(3, ((8 : Nat) : Int))]) (r := []) (x := 82) (ls0 := [(2, 82), (3, ((8 : Nat) : Int)), (9, 0)]) gz_49_32 gm_41 rfl is_82 rd_5 rfl rfl rfl rfl rfl (c_Reader_isWord9_f0 (d := (d + 2)) (x1 := ((8 : Nat) : Int)) (by decide) (cf.trans (by omega)) n_Cu (fun w1321 xp1322 => ?_) (fun w1323 w1324 xp1325 => ?_))
          ·
            show wp l rho (d + 7) 49 35 [(2, 82), (0, 1), (0, 1), (0, 1), (0, 1), (9, 0)] [(0, 0)] h Q
            rw [show wc ((8 : Nat) : Int) = 26801 from by decide] at xp1322
            refine w_istore (ls' := [(2, 82), (0, 1), (0, 1), (0, 1), (0, 1), (0, 0)]) gz_49_35 gm_49 rfl rfl rfl ?_
            refine w_iload_n gz_49_37 rfl ?_
            refine w_ifne (t := 65) gz_49_38 rfl (fun u1326 => ?_) (fun u1326 => by exfalso; omega)
            refine w_iload_n gz_49_65 rfl ?_
            refine w_ifne (t := 87) gz_49_66 rfl (fun u1327 => ?_) (fun u1327 => by exfalso; omega)
            refine w_aload_n gz_49_87 rfl ?_
            refine w_inv (k := 2) (as := []) (r := []) (x := 82) (ls0 := [(2, 82), (9, 0), (9, 0)]) gz_49_88 gm_37 rfl is_82 rd_5 rfl rfl rfl rfl rfl (c_Reader_nextToken9_f0 (d := (d + 5))  (cf.trans (by omega)) n_Al (fun h1328 frh1328 w1329 w1330 w1331 xp1332 xp1333 Al_h1328t1334 Cu_h1328t1335 => ?_))
            have gh1328 : my_fr [(4, 4), (4, 5), (4, 6), (4, 7), (4, 8), (4, 9), (5, 5), (5, 6), (5, 7), (5, 8), (5, 9), (32, -1), (33, -1), (34, -1), (35, -1), (36, -1), (37, -1), (38, -1), (39, -1)] h h1328 := my_fr.tr my_fr.rf (frh1328.mo rfl)
            have Ln_h1328 : Ln h1328 := Ln_ag (my_ag.fr frh1328 rfl) n_Ln
            have Sp_h1328 : Sp h1328 wv := Sp_ag (my_ag.fr frh1328 rfl) hwv n_Ln n_Sp
            have Lo_h1328 : Lo h h1328 := Lo_ag (my_ag.fr frh1328 rfl) n_Ln (Lo_rf)
            show wp l rho (d + 7) 49 91 [(2, 82), (0, 1), (0, 1), (0, 1), (0, 1), (0, 0)] [] h1328 Q
            have xc1336 := xp1332 n_Cu
            have ck1337 := Cu_s Cu_h1328t1335
            rw [show cs h1328 = cs h from cs_eq (fun j => my_fr.at gh1328 is_92 rfl) (my_fr.at gh1328 is_82 rfl)] at ck1337
            rw [show h1328 82 7 = (sN (cs h) (h 82 7)) from xc1336] at ck1337
            refine w_iload_n gz_49_91 rfl ?_
            refine w_ifeq (t := 102) gz_49_92 rfl (fun u1338 => by exfalso; omega) (fun u1338 => ?_)
            refine w_aload_n gz_49_95 rfl ?_
            refine w_inv (k := 2) (as := []) (r := []) (x := 82) (ls0 := [(2, 82), (9, 0), (9, 0)]) gz_49_96 gm_50 rfl is_82 rd_5 rfl rfl rfl rfl rfl (c_Reader_readFill9_f0 (d := (d + 3))  (((my_fr.at frh1328 is_82 rfl).trans cf).trans (by omega)) Al_h1328t1334 Cu_h1328t1335 (fun h1339 frh1339 w1340 w1341 xp1342 Al_h1339t1343 Cu_h1339t1344 => ?_) (fun h1345 frh1345 w1346 xp1347 Al_h1345t1348 Cu_h1345t1349 => ?_))
            ·
              have gh1339 : my_fr [(4, 4), (4, 5), (4, 6), (4, 7), (4, 8), (4, 9), (5, 5), (5, 6), (5, 7), (5, 8), (5, 9), (32, -1), (33, -1), (34, -1), (35, -1), (36, -1), (37, -1), (38, -1), (39, -1)] h h1339 := my_fr.tr gh1328 (frh1339.mo rfl)
              have Ln_h1339 : Ln h1339 := Ln_ag (my_ag.fr frh1339 rfl) Ln_h1328
              have Sp_h1339 : Sp h1339 wv := Sp_ag (my_ag.fr frh1339 rfl) hwv Ln_h1328 Sp_h1328
              have Lo_h1339 : Lo h h1339 := Lo_ag (my_ag.fr frh1339 rfl) Ln_h1328 Lo_h1328
              show wp l rho (d + 7) 49 99 [(2, 82), (0, 1), (0, 1), (0, 1), (0, 1), (0, 0)] [] h1339 Q
              have tE1350 : cs h1328 = cs h := cs_eq (fun j => my_fr.at gh1328 is_92 rfl) (my_fr.at gh1328 is_82 rfl)
              rw [tE1350] at xp1342
              have ps1351 : h1328 82 7 = (sN (cs h) (h 82 7)) := xc1336
              rw [ps1351] at xp1342
              have q2 : h1328 82 2 = h 82 2 := my_fr.at frh1328 is_82 rfl
              have q11 : h1328 (h 82 2) 1 = h (h 82 2) 1 := my_fr.at frh1328 n_Ln.2.2.2.1 rfl
              have q13 : h1328 (h 82 2) 3 = h (h 82 2) 3 := my_fr.at frh1328 n_Ln.2.2.2.1 rfl
              have q14 : h1328 (h 82 2) 4 = h (h 82 2) 4 := my_fr.at frh1328 n_Ln.2.2.2.1 rfl
              have q19 : h1328 (h 82 2) 9 = h (h 82 2) 9 := my_fr.at frh1328 n_Ln.2.2.2.1 rfl
              have qc : h1328 2 = h 2 := funext (fun j => my_fr.at frh1328 is_2 rfl)
              have zF := xp1342
              simp only [q2, q11, q13, q14, q19, qc] at zF
              have st : h1339 82 2 = h 82 2 ∧ h1339 (h 82 2) 3 = h (h 82 2) 3 ∧ h1339 (h 82 2) 4 = h (h 82 2) 4 ∧ h1339 (h 82 2) 9 = h (h 82 2) 9 ∧ h1339 (h 82 2) 1 = h (h 82 2) 1 := ⟨(my_fr.at frh1339 is_82 rfl).trans q2, (my_fr.at frh1339 n_Ln.2.2.2.1 rfl).trans q13, (my_fr.at frh1339 n_Ln.2.2.2.1 rfl).trans q14, (my_fr.at frh1339 n_Ln.2.2.2.1 rfl).trans q19, (my_fr.at frh1339 n_Ln.2.2.2.1 rfl).trans q11⟩
              refine w_goto (t := 140) gz_49_99 rfl ?_
              have psR : h1339 82 7 = h1339 82 7 := (rfl : h1339 82 7 = h1339 82 7)
              have npsR : cs h1339 = cs h := cs_eq (fun j => my_fr.at gh1339 is_92 rfl) (my_fr.at gh1339 is_82 rfl)
              have c1352 := (rfl : h1339 82 9 = h1339 82 9)
              exact w_vret gz_49_140 gm_49 (k0 h1339 (gh1339) (by omega) (by omega) (by first | exact Lo_h1339 | exact ⟨st.1, st.2.1, st.2.2.2.2⟩ | exact Or.inl ⟨by omega, zF, st.2.2.1, st.2.2.2.1⟩ | exact Or.inr (Or.inr (Or.inl ⟨by omega, by omega, zC, st.2.2.1, st.2.2.2.1⟩)) | exact Or.inr (Or.inr (Or.inr (Or.inl ⟨by omega, by omega, zW, st.2.2.2.1⟩))) | exact Or.inr (Or.inr (Or.inr (Or.inr (Or.inl ⟨by omega, by omega, zJ, fun _ => st.2.2.1, st.2.2.2.1⟩)))) | exact Or.inr (Or.inr (Or.inr (Or.inr (Or.inr (Or.inl ⟨by omega, by omega, zS, st.2.2.1, st.2.2.2.1⟩))))) | exact ⟨_, _, _, Or.inl ⟨by omega, zF, rfl, rfl⟩⟩ | exact ⟨_, _, _, Or.inr (Or.inr (Or.inl ⟨by omega, by omega, zC, rfl, rfl⟩))⟩ | exact ⟨_, _, _, Or.inr (Or.inr (Or.inr (Or.inl ⟨by omega, by omega, zW, rfl⟩)))⟩ | exact ⟨_, _, _, Or.inr (Or.inr (Or.inr (Or.inr (Or.inl ⟨by omega, by omega, zJ, fun q => absurd q (by omega), rfl⟩))))⟩ | exact ⟨_, _, _, Or.inr (Or.inr (Or.inr (Or.inr (Or.inr (Or.inl ⟨by omega, by omega, zS, rfl, rfl⟩)))))⟩ | exact ⟨0, 0, 0, Or.inr (Or.inl ⟨by omega, by omega, by omega⟩)⟩ | exact ⟨0, 0, 0, Or.inr (Or.inr (Or.inr (Or.inr (Or.inr (Or.inr ⟨by omega, by omega, by omega, by omega, by omega, by omega⟩)))))⟩ | (exfalso; omega) | omega) (by first | exact Lo_h1339 | exact ⟨st.1, st.2.1, st.2.2.2.2⟩ | exact Or.inl ⟨by omega, zF, st.2.2.1, st.2.2.2.1⟩ | exact Or.inr (Or.inr (Or.inl ⟨by omega, by omega, zC, st.2.2.1, st.2.2.2.1⟩)) | exact Or.inr (Or.inr (Or.inr (Or.inl ⟨by omega, by omega, zW, st.2.2.2.1⟩))) | exact Or.inr (Or.inr (Or.inr (Or.inr (Or.inl ⟨by omega, by omega, zJ, fun _ => st.2.2.1, st.2.2.2.1⟩)))) | exact Or.inr (Or.inr (Or.inr (Or.inr (Or.inr (Or.inl ⟨by omega, by omega, zS, st.2.2.1, st.2.2.2.1⟩))))) | exact ⟨_, _, _, Or.inl ⟨by omega, zF, rfl, rfl⟩⟩ | exact ⟨_, _, _, Or.inr (Or.inr (Or.inl ⟨by omega, by omega, zC, rfl, rfl⟩))⟩ | exact ⟨_, _, _, Or.inr (Or.inr (Or.inr (Or.inl ⟨by omega, by omega, zW, rfl⟩)))⟩ | exact ⟨_, _, _, Or.inr (Or.inr (Or.inr (Or.inr (Or.inl ⟨by omega, by omega, zJ, fun q => absurd q (by omega), rfl⟩))))⟩ | exact ⟨_, _, _, Or.inr (Or.inr (Or.inr (Or.inr (Or.inr (Or.inl ⟨by omega, by omega, zS, rfl, rfl⟩)))))⟩ | exact ⟨0, 0, 0, Or.inr (Or.inl ⟨by omega, by omega, by omega⟩)⟩ | exact ⟨0, 0, 0, Or.inr (Or.inr (Or.inr (Or.inr (Or.inr (Or.inr ⟨by omega, by omega, by omega, by omega, by omega, by omega⟩)))))⟩ | (exfalso; omega) | omega) Ln_h1339 Sp_h1339 Al_h1339t1343 Cu_h1339t1344)
            ·
              have gh1345 : my_fr [(4, 4), (4, 5), (4, 6), (4, 7), (4, 8), (4, 9), (5, 5), (5, 6), (5, 7), (5, 8), (5, 9), (32, -1), (33, -1), (34, -1), (35, -1), (36, -1), (37, -1), (38, -1), (39, -1)] h h1345 := my_fr.tr gh1328 (frh1345.mo rfl)
              have Ln_h1345 : Ln h1345 := Ln_ag (my_ag.fr frh1345 rfl) Ln_h1328
              have Sp_h1345 : Sp h1345 wv := Sp_ag (my_ag.fr frh1345 rfl) hwv Ln_h1328 Sp_h1328
              have Lo_h1345 : Lo h h1345 := Lo_ag (my_ag.fr frh1345 rfl) Ln_h1328 Lo_h1328
              show wp l rho (d + 7) 49 99 [(2, 82), (0, 1), (0, 1), (0, 1), (0, 1), (0, 0)] [] h1345 Q
              have tE1353 : cs h1328 = cs h := cs_eq (fun j => my_fr.at gh1328 is_92 rfl) (my_fr.at gh1328 is_82 rfl)
              rw [tE1353] at xp1347
              have ps1354 : h1328 82 7 = (sN (cs h) (h 82 7)) := xc1336
              rw [ps1354] at xp1347
              have q2 : h1328 82 2 = h 82 2 := my_fr.at frh1328 is_82 rfl
              have q11 : h1328 (h 82 2) 1 = h (h 82 2) 1 := my_fr.at frh1328 n_Ln.2.2.2.1 rfl
              have q13 : h1328 (h 82 2) 3 = h (h 82 2) 3 := my_fr.at frh1328 n_Ln.2.2.2.1 rfl
              have q14 : h1328 (h 82 2) 4 = h (h 82 2) 4 := my_fr.at frh1328 n_Ln.2.2.2.1 rfl
              have q19 : h1328 (h 82 2) 9 = h (h 82 2) 9 := my_fr.at frh1328 n_Ln.2.2.2.1 rfl
              have qc : h1328 2 = h 2 := funext (fun j => my_fr.at frh1328 is_2 rfl)
              have zF := xp1347
              simp only [q2, q11, q13, q14, q19, qc] at zF
              have st : h1345 82 2 = h 82 2 ∧ h1345 (h 82 2) 3 = h (h 82 2) 3 ∧ h1345 (h 82 2) 4 = h (h 82 2) 4 ∧ h1345 (h 82 2) 9 = h (h 82 2) 9 ∧ h1345 (h 82 2) 1 = h (h 82 2) 1 := ⟨(my_fr.at frh1345 is_82 rfl).trans q2, (my_fr.at frh1345 n_Ln.2.2.2.1 rfl).trans q13, (my_fr.at frh1345 n_Ln.2.2.2.1 rfl).trans q14, (my_fr.at frh1345 n_Ln.2.2.2.1 rfl).trans q19, (my_fr.at frh1345 n_Ln.2.2.2.1 rfl).trans q11⟩
              refine w_goto (t := 140) gz_49_99 rfl ?_
              have psR : h1345 82 7 = h1345 82 7 := (rfl : h1345 82 7 = h1345 82 7)
              have npsR : cs h1345 = cs h := cs_eq (fun j => my_fr.at gh1345 is_92 rfl) (my_fr.at gh1345 is_82 rfl)
              have c1355 := w1346
              exact w_vret gz_49_140 gm_49 (k1 h1345 (gh1345) (by omega) (by first | exact Lo_h1345 | exact ⟨st.1, st.2.1, st.2.2.2.2⟩ | exact Or.inl ⟨by omega, zF, st.2.2.1, st.2.2.2.1⟩ | exact Or.inr (Or.inr (Or.inl ⟨by omega, by omega, zC, st.2.2.1, st.2.2.2.1⟩)) | exact Or.inr (Or.inr (Or.inr (Or.inl ⟨by omega, by omega, zW, st.2.2.2.1⟩))) | exact Or.inr (Or.inr (Or.inr (Or.inr (Or.inl ⟨by omega, by omega, zJ, fun _ => st.2.2.1, st.2.2.2.1⟩)))) | exact Or.inr (Or.inr (Or.inr (Or.inr (Or.inr (Or.inl ⟨by omega, by omega, zS, st.2.2.1, st.2.2.2.1⟩))))) | exact ⟨_, _, _, Or.inl ⟨by omega, zF, rfl, rfl⟩⟩ | exact ⟨_, _, _, Or.inr (Or.inr (Or.inl ⟨by omega, by omega, zC, rfl, rfl⟩))⟩ | exact ⟨_, _, _, Or.inr (Or.inr (Or.inr (Or.inl ⟨by omega, by omega, zW, rfl⟩)))⟩ | exact ⟨_, _, _, Or.inr (Or.inr (Or.inr (Or.inr (Or.inl ⟨by omega, by omega, zJ, fun q => absurd q (by omega), rfl⟩))))⟩ | exact ⟨_, _, _, Or.inr (Or.inr (Or.inr (Or.inr (Or.inr (Or.inl ⟨by omega, by omega, zS, rfl, rfl⟩)))))⟩ | exact ⟨0, 0, 0, Or.inr (Or.inl ⟨by omega, by omega, by omega⟩)⟩ | exact ⟨0, 0, 0, Or.inr (Or.inr (Or.inr (Or.inr (Or.inr (Or.inr ⟨by omega, by omega, by omega, by omega, by omega, by omega⟩)))))⟩ | (exfalso; omega) | omega) (by first | exact Lo_h1345 | exact ⟨st.1, st.2.1, st.2.2.2.2⟩ | exact Or.inl ⟨by omega, zF, st.2.2.1, st.2.2.2.1⟩ | exact Or.inr (Or.inr (Or.inl ⟨by omega, by omega, zC, st.2.2.1, st.2.2.2.1⟩)) | exact Or.inr (Or.inr (Or.inr (Or.inl ⟨by omega, by omega, zW, st.2.2.2.1⟩))) | exact Or.inr (Or.inr (Or.inr (Or.inr (Or.inl ⟨by omega, by omega, zJ, fun _ => st.2.2.1, st.2.2.2.1⟩)))) | exact Or.inr (Or.inr (Or.inr (Or.inr (Or.inr (Or.inl ⟨by omega, by omega, zS, st.2.2.1, st.2.2.2.1⟩))))) | exact ⟨_, _, _, Or.inl ⟨by omega, zF, rfl, rfl⟩⟩ | exact ⟨_, _, _, Or.inr (Or.inr (Or.inl ⟨by omega, by omega, zC, rfl, rfl⟩))⟩ | exact ⟨_, _, _, Or.inr (Or.inr (Or.inr (Or.inl ⟨by omega, by omega, zW, rfl⟩)))⟩ | exact ⟨_, _, _, Or.inr (Or.inr (Or.inr (Or.inr (Or.inl ⟨by omega, by omega, zJ, fun q => absurd q (by omega), rfl⟩))))⟩ | exact ⟨_, _, _, Or.inr (Or.inr (Or.inr (Or.inr (Or.inr (Or.inl ⟨by omega, by omega, zS, rfl, rfl⟩)))))⟩ | exact ⟨0, 0, 0, Or.inr (Or.inl ⟨by omega, by omega, by omega⟩)⟩ | exact ⟨0, 0, 0, Or.inr (Or.inr (Or.inr (Or.inr (Or.inr (Or.inr ⟨by omega, by omega, by omega, by omega, by omega, by omega⟩)))))⟩ | (exfalso; omega) | omega) (by first | exact Lo_h1345 | exact ⟨st.1, st.2.1, st.2.2.2.2⟩ | exact Or.inl ⟨by omega, zF, st.2.2.1, st.2.2.2.1⟩ | exact Or.inr (Or.inr (Or.inl ⟨by omega, by omega, zC, st.2.2.1, st.2.2.2.1⟩)) | exact Or.inr (Or.inr (Or.inr (Or.inl ⟨by omega, by omega, zW, st.2.2.2.1⟩))) | exact Or.inr (Or.inr (Or.inr (Or.inr (Or.inl ⟨by omega, by omega, zJ, fun _ => st.2.2.1, st.2.2.2.1⟩)))) | exact Or.inr (Or.inr (Or.inr (Or.inr (Or.inr (Or.inl ⟨by omega, by omega, zS, st.2.2.1, st.2.2.2.1⟩))))) | exact ⟨_, _, _, Or.inl ⟨by omega, zF, rfl, rfl⟩⟩ | exact ⟨_, _, _, Or.inr (Or.inr (Or.inl ⟨by omega, by omega, zC, rfl, rfl⟩))⟩ | exact ⟨_, _, _, Or.inr (Or.inr (Or.inr (Or.inl ⟨by omega, by omega, zW, rfl⟩)))⟩ | exact ⟨_, _, _, Or.inr (Or.inr (Or.inr (Or.inr (Or.inl ⟨by omega, by omega, zJ, fun q => absurd q (by omega), rfl⟩))))⟩ | exact ⟨_, _, _, Or.inr (Or.inr (Or.inr (Or.inr (Or.inr (Or.inl ⟨by omega, by omega, zS, rfl, rfl⟩)))))⟩ | exact ⟨0, 0, 0, Or.inr (Or.inl ⟨by omega, by omega, by omega⟩)⟩ | exact ⟨0, 0, 0, Or.inr (Or.inr (Or.inr (Or.inr (Or.inr (Or.inr ⟨by omega, by omega, by omega, by omega, by omega, by omega⟩)))))⟩ | (exfalso; omega) | omega) Ln_h1345 Sp_h1345 Al_h1345t1348 Cu_h1345t1349)
          ·
            show wp l rho (d + 7) 49 35 [(2, 82), (0, 1), (0, 1), (0, 1), (0, 1), (9, 0)] [(0, 1)] h Q
            rw [show wc ((8 : Nat) : Int) = 26801 from by decide] at xp1325
            refine w_istore (ls' := [(2, 82), (0, 1), (0, 1), (0, 1), (0, 1), (0, 1)]) gz_49_35 gm_49 rfl rfl rfl ?_
            refine w_iload_n gz_49_37 rfl ?_
            refine w_ifne (t := 65) gz_49_38 rfl (fun u1356 => ?_) (fun u1356 => by exfalso; omega)
            refine w_iload_n gz_49_65 rfl ?_
            refine w_ifne (t := 87) gz_49_66 rfl (fun u1357 => ?_) (fun u1357 => by exfalso; omega)
            refine w_aload_n gz_49_87 rfl ?_
            refine w_inv (k := 2) (as := []) (r := []) (x := 82) (ls0 := [(2, 82), (9, 0), (9, 0)]) gz_49_88 gm_37 rfl is_82 rd_5 rfl rfl rfl rfl rfl (c_Reader_nextToken9_f0 (d := (d + 5))  (cf.trans (by omega)) n_Al (fun h1358 frh1358 w1359 w1360 w1361 xp1362 xp1363 Al_h1358t1364 Cu_h1358t1365 => ?_))
            have gh1358 : my_fr [(4, 4), (4, 5), (4, 6), (4, 7), (4, 8), (4, 9), (5, 5), (5, 6), (5, 7), (5, 8), (5, 9), (32, -1), (33, -1), (34, -1), (35, -1), (36, -1), (37, -1), (38, -1), (39, -1)] h h1358 := my_fr.tr my_fr.rf (frh1358.mo rfl)
            have Ln_h1358 : Ln h1358 := Ln_ag (my_ag.fr frh1358 rfl) n_Ln
            have Sp_h1358 : Sp h1358 wv := Sp_ag (my_ag.fr frh1358 rfl) hwv n_Ln n_Sp
            have Lo_h1358 : Lo h h1358 := Lo_ag (my_ag.fr frh1358 rfl) n_Ln (Lo_rf)
            show wp l rho (d + 7) 49 91 [(2, 82), (0, 1), (0, 1), (0, 1), (0, 1), (0, 1)] [] h1358 Q
            have xc1366 := xp1362 n_Cu
            have ck1367 := Cu_s Cu_h1358t1365
            rw [show cs h1358 = cs h from cs_eq (fun j => my_fr.at gh1358 is_92 rfl) (my_fr.at gh1358 is_82 rfl)] at ck1367
            rw [show h1358 82 7 = (sN (cs h) (h 82 7)) from xc1366] at ck1367
            refine w_iload_n gz_49_91 rfl ?_
            refine w_ifeq (t := 102) gz_49_92 rfl (fun u1368 => by exfalso; omega) (fun u1368 => ?_)
            refine w_aload_n gz_49_95 rfl ?_
            refine w_inv (k := 2) (as := []) (r := []) (x := 82) (ls0 := [(2, 82), (9, 0), (9, 0)]) gz_49_96 gm_50 rfl is_82 rd_5 rfl rfl rfl rfl rfl (c_Reader_readFill9_f0 (d := (d + 3))  (((my_fr.at frh1358 is_82 rfl).trans cf).trans (by omega)) Al_h1358t1364 Cu_h1358t1365 (fun h1369 frh1369 w1370 w1371 xp1372 Al_h1369t1373 Cu_h1369t1374 => ?_) (fun h1375 frh1375 w1376 xp1377 Al_h1375t1378 Cu_h1375t1379 => ?_))
            ·
              have gh1369 : my_fr [(4, 4), (4, 5), (4, 6), (4, 7), (4, 8), (4, 9), (5, 5), (5, 6), (5, 7), (5, 8), (5, 9), (32, -1), (33, -1), (34, -1), (35, -1), (36, -1), (37, -1), (38, -1), (39, -1)] h h1369 := my_fr.tr gh1358 (frh1369.mo rfl)
              have Ln_h1369 : Ln h1369 := Ln_ag (my_ag.fr frh1369 rfl) Ln_h1358
              have Sp_h1369 : Sp h1369 wv := Sp_ag (my_ag.fr frh1369 rfl) hwv Ln_h1358 Sp_h1358
              have Lo_h1369 : Lo h h1369 := Lo_ag (my_ag.fr frh1369 rfl) Ln_h1358 Lo_h1358
              show wp l rho (d + 7) 49 99 [(2, 82), (0, 1), (0, 1), (0, 1), (0, 1), (0, 1)] [] h1369 Q
              have tE1380 : cs h1358 = cs h := cs_eq (fun j => my_fr.at gh1358 is_92 rfl) (my_fr.at gh1358 is_82 rfl)
              rw [tE1380] at xp1372
              have ps1381 : h1358 82 7 = (sN (cs h) (h 82 7)) := xc1366
              rw [ps1381] at xp1372
              have q2 : h1358 82 2 = h 82 2 := my_fr.at frh1358 is_82 rfl
              have q11 : h1358 (h 82 2) 1 = h (h 82 2) 1 := my_fr.at frh1358 n_Ln.2.2.2.1 rfl
              have q13 : h1358 (h 82 2) 3 = h (h 82 2) 3 := my_fr.at frh1358 n_Ln.2.2.2.1 rfl
              have q14 : h1358 (h 82 2) 4 = h (h 82 2) 4 := my_fr.at frh1358 n_Ln.2.2.2.1 rfl
              have q19 : h1358 (h 82 2) 9 = h (h 82 2) 9 := my_fr.at frh1358 n_Ln.2.2.2.1 rfl
              have qc : h1358 2 = h 2 := funext (fun j => my_fr.at frh1358 is_2 rfl)
              have zF := xp1372
              simp only [q2, q11, q13, q14, q19, qc] at zF
              have st : h1369 82 2 = h 82 2 ∧ h1369 (h 82 2) 3 = h (h 82 2) 3 ∧ h1369 (h 82 2) 4 = h (h 82 2) 4 ∧ h1369 (h 82 2) 9 = h (h 82 2) 9 ∧ h1369 (h 82 2) 1 = h (h 82 2) 1 := ⟨(my_fr.at frh1369 is_82 rfl).trans q2, (my_fr.at frh1369 n_Ln.2.2.2.1 rfl).trans q13, (my_fr.at frh1369 n_Ln.2.2.2.1 rfl).trans q14, (my_fr.at frh1369 n_Ln.2.2.2.1 rfl).trans q19, (my_fr.at frh1369 n_Ln.2.2.2.1 rfl).trans q11⟩
              refine w_goto (t := 140) gz_49_99 rfl ?_
              have psR : h1369 82 7 = h1369 82 7 := (rfl : h1369 82 7 = h1369 82 7)
              have npsR : cs h1369 = cs h := cs_eq (fun j => my_fr.at gh1369 is_92 rfl) (my_fr.at gh1369 is_82 rfl)
              have c1382 := (rfl : h1369 82 9 = h1369 82 9)
              exact w_vret gz_49_140 gm_49 (k0 h1369 (gh1369) (by omega) (by omega) (by first | exact Lo_h1369 | exact ⟨st.1, st.2.1, st.2.2.2.2⟩ | exact Or.inl ⟨by omega, zF, st.2.2.1, st.2.2.2.1⟩ | exact Or.inr (Or.inr (Or.inl ⟨by omega, by omega, zC, st.2.2.1, st.2.2.2.1⟩)) | exact Or.inr (Or.inr (Or.inr (Or.inl ⟨by omega, by omega, zW, st.2.2.2.1⟩))) | exact Or.inr (Or.inr (Or.inr (Or.inr (Or.inl ⟨by omega, by omega, zJ, fun _ => st.2.2.1, st.2.2.2.1⟩)))) | exact Or.inr (Or.inr (Or.inr (Or.inr (Or.inr (Or.inl ⟨by omega, by omega, zS, st.2.2.1, st.2.2.2.1⟩))))) | exact ⟨_, _, _, Or.inl ⟨by omega, zF, rfl, rfl⟩⟩ | exact ⟨_, _, _, Or.inr (Or.inr (Or.inl ⟨by omega, by omega, zC, rfl, rfl⟩))⟩ | exact ⟨_, _, _, Or.inr (Or.inr (Or.inr (Or.inl ⟨by omega, by omega, zW, rfl⟩)))⟩ | exact ⟨_, _, _, Or.inr (Or.inr (Or.inr (Or.inr (Or.inl ⟨by omega, by omega, zJ, fun q => absurd q (by omega), rfl⟩))))⟩ | exact ⟨_, _, _, Or.inr (Or.inr (Or.inr (Or.inr (Or.inr (Or.inl ⟨by omega, by omega, zS, rfl, rfl⟩)))))⟩ | exact ⟨0, 0, 0, Or.inr (Or.inl ⟨by omega, by omega, by omega⟩)⟩ | exact ⟨0, 0, 0, Or.inr (Or.inr (Or.inr (Or.inr (Or.inr (Or.inr ⟨by omega, by omega, by omega, by omega, by omega, by omega⟩)))))⟩ | (exfalso; omega) | omega) (by first | exact Lo_h1369 | exact ⟨st.1, st.2.1, st.2.2.2.2⟩ | exact Or.inl ⟨by omega, zF, st.2.2.1, st.2.2.2.1⟩ | exact Or.inr (Or.inr (Or.inl ⟨by omega, by omega, zC, st.2.2.1, st.2.2.2.1⟩)) | exact Or.inr (Or.inr (Or.inr (Or.inl ⟨by omega, by omega, zW, st.2.2.2.1⟩))) | exact Or.inr (Or.inr (Or.inr (Or.inr (Or.inl ⟨by omega, by omega, zJ, fun _ => st.2.2.1, st.2.2.2.1⟩)))) | exact Or.inr (Or.inr (Or.inr (Or.inr (Or.inr (Or.inl ⟨by omega, by omega, zS, st.2.2.1, st.2.2.2.1⟩))))) | exact ⟨_, _, _, Or.inl ⟨by omega, zF, rfl, rfl⟩⟩ | exact ⟨_, _, _, Or.inr (Or.inr (Or.inl ⟨by omega, by omega, zC, rfl, rfl⟩))⟩ | exact ⟨_, _, _, Or.inr (Or.inr (Or.inr (Or.inl ⟨by omega, by omega, zW, rfl⟩)))⟩ | exact ⟨_, _, _, Or.inr (Or.inr (Or.inr (Or.inr (Or.inl ⟨by omega, by omega, zJ, fun q => absurd q (by omega), rfl⟩))))⟩ | exact ⟨_, _, _, Or.inr (Or.inr (Or.inr (Or.inr (Or.inr (Or.inl ⟨by omega, by omega, zS, rfl, rfl⟩)))))⟩ | exact ⟨0, 0, 0, Or.inr (Or.inl ⟨by omega, by omega, by omega⟩)⟩ | exact ⟨0, 0, 0, Or.inr (Or.inr (Or.inr (Or.inr (Or.inr (Or.inr ⟨by omega, by omega, by omega, by omega, by omega, by omega⟩)))))⟩ | (exfalso; omega) | omega) Ln_h1369 Sp_h1369 Al_h1369t1373 Cu_h1369t1374)
            ·
              have gh1375 : my_fr [(4, 4), (4, 5), (4, 6), (4, 7), (4, 8), (4, 9), (5, 5), (5, 6), (5, 7), (5, 8), (5, 9), (32, -1), (33, -1), (34, -1), (35, -1), (36, -1), (37, -1), (38, -1), (39, -1)] h h1375 := my_fr.tr gh1358 (frh1375.mo rfl)
              have Ln_h1375 : Ln h1375 := Ln_ag (my_ag.fr frh1375 rfl) Ln_h1358
              have Sp_h1375 : Sp h1375 wv := Sp_ag (my_ag.fr frh1375 rfl) hwv Ln_h1358 Sp_h1358
              have Lo_h1375 : Lo h h1375 := Lo_ag (my_ag.fr frh1375 rfl) Ln_h1358 Lo_h1358
              show wp l rho (d + 7) 49 99 [(2, 82), (0, 1), (0, 1), (0, 1), (0, 1), (0, 1)] [] h1375 Q
              have tE1383 : cs h1358 = cs h := cs_eq (fun j => my_fr.at gh1358 is_92 rfl) (my_fr.at gh1358 is_82 rfl)
              rw [tE1383] at xp1377
              have ps1384 : h1358 82 7 = (sN (cs h) (h 82 7)) := xc1366
              rw [ps1384] at xp1377
              have q2 : h1358 82 2 = h 82 2 := my_fr.at frh1358 is_82 rfl
              have q11 : h1358 (h 82 2) 1 = h (h 82 2) 1 := my_fr.at frh1358 n_Ln.2.2.2.1 rfl
              have q13 : h1358 (h 82 2) 3 = h (h 82 2) 3 := my_fr.at frh1358 n_Ln.2.2.2.1 rfl
              have q14 : h1358 (h 82 2) 4 = h (h 82 2) 4 := my_fr.at frh1358 n_Ln.2.2.2.1 rfl
              have q19 : h1358 (h 82 2) 9 = h (h 82 2) 9 := my_fr.at frh1358 n_Ln.2.2.2.1 rfl
              have qc : h1358 2 = h 2 := funext (fun j => my_fr.at frh1358 is_2 rfl)
              have zF := xp1377
              simp only [q2, q11, q13, q14, q19, qc] at zF
              have st : h1375 82 2 = h 82 2 ∧ h1375 (h 82 2) 3 = h (h 82 2) 3 ∧ h1375 (h 82 2) 4 = h (h 82 2) 4 ∧ h1375 (h 82 2) 9 = h (h 82 2) 9 ∧ h1375 (h 82 2) 1 = h (h 82 2) 1 := ⟨(my_fr.at frh1375 is_82 rfl).trans q2, (my_fr.at frh1375 n_Ln.2.2.2.1 rfl).trans q13, (my_fr.at frh1375 n_Ln.2.2.2.1 rfl).trans q14, (my_fr.at frh1375 n_Ln.2.2.2.1 rfl).trans q19, (my_fr.at frh1375 n_Ln.2.2.2.1 rfl).trans q11⟩
              refine w_goto (t := 140) gz_49_99 rfl ?_
              have psR : h1375 82 7 = h1375 82 7 := (rfl : h1375 82 7 = h1375 82 7)
              have npsR : cs h1375 = cs h := cs_eq (fun j => my_fr.at gh1375 is_92 rfl) (my_fr.at gh1375 is_82 rfl)
              have c1385 := w1376
              exact w_vret gz_49_140 gm_49 (k1 h1375 (gh1375) (by omega) (by first | exact Lo_h1375 | exact ⟨st.1, st.2.1, st.2.2.2.2⟩ | exact Or.inl ⟨by omega, zF, st.2.2.1, st.2.2.2.1⟩ | exact Or.inr (Or.inr (Or.inl ⟨by omega, by omega, zC, st.2.2.1, st.2.2.2.1⟩)) | exact Or.inr (Or.inr (Or.inr (Or.inl ⟨by omega, by omega, zW, st.2.2.2.1⟩))) | exact Or.inr (Or.inr (Or.inr (Or.inr (Or.inl ⟨by omega, by omega, zJ, fun _ => st.2.2.1, st.2.2.2.1⟩)))) | exact Or.inr (Or.inr (Or.inr (Or.inr (Or.inr (Or.inl ⟨by omega, by omega, zS, st.2.2.1, st.2.2.2.1⟩))))) | exact ⟨_, _, _, Or.inl ⟨by omega, zF, rfl, rfl⟩⟩ | exact ⟨_, _, _, Or.inr (Or.inr (Or.inl ⟨by omega, by omega, zC, rfl, rfl⟩))⟩ | exact ⟨_, _, _, Or.inr (Or.inr (Or.inr (Or.inl ⟨by omega, by omega, zW, rfl⟩)))⟩ | exact ⟨_, _, _, Or.inr (Or.inr (Or.inr (Or.inr (Or.inl ⟨by omega, by omega, zJ, fun q => absurd q (by omega), rfl⟩))))⟩ | exact ⟨_, _, _, Or.inr (Or.inr (Or.inr (Or.inr (Or.inr (Or.inl ⟨by omega, by omega, zS, rfl, rfl⟩)))))⟩ | exact ⟨0, 0, 0, Or.inr (Or.inl ⟨by omega, by omega, by omega⟩)⟩ | exact ⟨0, 0, 0, Or.inr (Or.inr (Or.inr (Or.inr (Or.inr (Or.inr ⟨by omega, by omega, by omega, by omega, by omega, by omega⟩)))))⟩ | (exfalso; omega) | omega) (by first | exact Lo_h1375 | exact ⟨st.1, st.2.1, st.2.2.2.2⟩ | exact Or.inl ⟨by omega, zF, st.2.2.1, st.2.2.2.1⟩ | exact Or.inr (Or.inr (Or.inl ⟨by omega, by omega, zC, st.2.2.1, st.2.2.2.1⟩)) | exact Or.inr (Or.inr (Or.inr (Or.inl ⟨by omega, by omega, zW, st.2.2.2.1⟩))) | exact Or.inr (Or.inr (Or.inr (Or.inr (Or.inl ⟨by omega, by omega, zJ, fun _ => st.2.2.1, st.2.2.2.1⟩)))) | exact Or.inr (Or.inr (Or.inr (Or.inr (Or.inr (Or.inl ⟨by omega, by omega, zS, st.2.2.1, st.2.2.2.1⟩))))) | exact ⟨_, _, _, Or.inl ⟨by omega, zF, rfl, rfl⟩⟩ | exact ⟨_, _, _, Or.inr (Or.inr (Or.inl ⟨by omega, by omega, zC, rfl, rfl⟩))⟩ | exact ⟨_, _, _, Or.inr (Or.inr (Or.inr (Or.inl ⟨by omega, by omega, zW, rfl⟩)))⟩ | exact ⟨_, _, _, Or.inr (Or.inr (Or.inr (Or.inr (Or.inl ⟨by omega, by omega, zJ, fun q => absurd q (by omega), rfl⟩))))⟩ | exact ⟨_, _, _, Or.inr (Or.inr (Or.inr (Or.inr (Or.inr (Or.inl ⟨by omega, by omega, zS, rfl, rfl⟩)))))⟩ | exact ⟨0, 0, 0, Or.inr (Or.inl ⟨by omega, by omega, by omega⟩)⟩ | exact ⟨0, 0, 0, Or.inr (Or.inr (Or.inr (Or.inr (Or.inr (Or.inr ⟨by omega, by omega, by omega, by omega, by omega, by omega⟩)))))⟩ | (exfalso; omega) | omega) (by first | exact Lo_h1375 | exact ⟨st.1, st.2.1, st.2.2.2.2⟩ | exact Or.inl ⟨by omega, zF, st.2.2.1, st.2.2.2.1⟩ | exact Or.inr (Or.inr (Or.inl ⟨by omega, by omega, zC, st.2.2.1, st.2.2.2.1⟩)) | exact Or.inr (Or.inr (Or.inr (Or.inl ⟨by omega, by omega, zW, st.2.2.2.1⟩))) | exact Or.inr (Or.inr (Or.inr (Or.inr (Or.inl ⟨by omega, by omega, zJ, fun _ => st.2.2.1, st.2.2.2.1⟩)))) | exact Or.inr (Or.inr (Or.inr (Or.inr (Or.inr (Or.inl ⟨by omega, by omega, zS, st.2.2.1, st.2.2.2.1⟩))))) | exact ⟨_, _, _, Or.inl ⟨by omega, zF, rfl, rfl⟩⟩ | exact ⟨_, _, _, Or.inr (Or.inr (Or.inl ⟨by omega, by omega, zC, rfl, rfl⟩))⟩ | exact ⟨_, _, _, Or.inr (Or.inr (Or.inr (Or.inl ⟨by omega, by omega, zW, rfl⟩)))⟩ | exact ⟨_, _, _, Or.inr (Or.inr (Or.inr (Or.inr (Or.inl ⟨by omega, by omega, zJ, fun q => absurd q (by omega), rfl⟩))))⟩ | exact ⟨_, _, _, Or.inr (Or.inr (Or.inr (Or.inr (Or.inr (Or.inl ⟨by omega, by omega, zS, rfl, rfl⟩)))))⟩ | exact ⟨0, 0, 0, Or.inr (Or.inl ⟨by omega, by omega, by omega⟩)⟩ | exact ⟨0, 0, 0, Or.inr (Or.inr (Or.inr (Or.inr (Or.inr (Or.inr ⟨by omega, by omega, by omega, by omega, by omega, by omega⟩)))))⟩ | (exfalso; omega) | omega) Ln_h1375 Sp_h1375 Al_h1375t1378 Cu_h1375t1379)
end MYNReader_readPane9_f0
