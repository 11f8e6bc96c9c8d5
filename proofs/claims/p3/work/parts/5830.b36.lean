/-! contracts, printed by wip/gen/gy.py -/
section MYNReader_readPane9_f0
set_option maxHeartbeats 4000000 in
theorem c_Reader_readPane9_f0 {l : Launch} {rho : Nat → Int32} {d : Nat} {h : my_H} {Q : my_H → my_V → Prop} {wv : Int} (cf : h 82 9 = 0) (hwv : wv ≤ 5) (hwv0 : 0 ≤ wv) (n_Ln : Ln h) (n_Sp : Sp h wv) (n_Al : Al h) (n_Cu : Cu h) (k0 : ∀ (h' : my_H), my_fr [(4, 4), (4, 5), (4, 6), (4, 7), (4, 8), (4, 9), (5, 5), (5, 6), (5, 7), (5, 8), (5, 9), (32, -1), (33, -1), (34, -1), (35, -1), (36, -1), (37, -1), (38, -1), (39, -1)] h h' → 1 ≤ h' 82 9 → h' 82 9 ≤ 16005 → (∃ y c s : Int, paneR (cs h) (h 2) (h (h 82 2) 3) (h 82 7) (h (h 82 2) 4) (h (h 82 2) 9) (h' 82 9) y c s) → Lo h h' → Ln h' → Sp h' wv → Al h' → Cu h' → Q h' (9, 0)) (k1 : ∀ (h' : my_H), my_fr [(4, 4), (4, 5), (4, 6), (4, 7), (4, 8), (4, 9), (5, 5), (5, 6), (5, 7), (5, 8), (5, 9), (32, -1), (33, -1), (34, -1), (35, -1), (36, -1), (37, -1), (38, -1), (39, -1)] h h' → h' 82 9 = 0 → paneR (cs h) (h 2) (h (h 82 2) 3) (h 82 7) (h (h 82 2) 4) (h (h 82 2) 9) (h' 82 9) (h' 82 7) (h' (h 82 2) 4) (h' (h 82 2) 9) → h' 82 2 = h 82 2 ∧ h' (h 82 2) 3 = h (h 82 2) 3 ∧ h' (h 82 2) 1 = h (h 82 2) 1 → Lo h h' → Ln h' → Sp h' wv → Al h' → Cu h' → Q h' (9, 0)) : wp l rho (d + 7) 49 0 [(2, 82), (9, 0), (9, 0), (9, 0), (9, 0), (9, 0)] [] h Q := by
  have ck1 := Cu_s n_Cu
  refine w_aload_n gz_49_0 rfl ?_
  refine w_ldcS gz_49_1 (by decide) ?_
  refine w_inv (k := 1) (as := [(3, ((4 : Nat) : Int))]) (r := []) (x := 82) (ls0 := [(2, 82), (3, ((4 : Nat) : Int)), (9, 0)]) gz_49_3 gm_41 rfl is_82 rd_5 rfl rfl rfl rfl rfl (c_Reader_isWord9_f0 (d := (d + 2)) (x1 := ((4 : Nat) : Int)) (by decide) (cf.trans (by omega)) n_Cu (fun w2 xp3 => ?_) (fun w4 w5 xp6 => ?_))
  ·
    show wp l rho (d + 7) 49 6 [(2, 82), (9, 0), (9, 0), (9, 0), (9, 0), (9, 0)] [(0, 0)] h Q
    rw [show wc ((4 : Nat) : Int) = 316695 from by decide] at xp3
    refine w_istore_n (ls' := [(2, 82), (0, 0), (9, 0), (9, 0), (9, 0), (9, 0)]) gz_49_6 gm_49 rfl rfl rfl ?_
    refine w_aload_n gz_49_7 rfl ?_
    refine w_ldcS gz_49_8 (by decide) ?_
    refine w_inv (k := 1) (as := [(3, ((5 : Nat) : Int))]) (r := []) (x := 82) (ls0 := [(2, 82), (3, ((5 : Nat) : Int)), (9, 0)]) gz_49_10 gm_41 rfl is_82 rd_5 rfl rfl rfl rfl rfl (c_Reader_isWord9_f0 (d := (d + 2)) (x1 := ((5 : Nat) : Int)) (by decide) (cf.trans (by omega)) n_Cu (fun w7 xp8 => ?_) (fun w9 w10 xp11 => ?_))
    ·
      show wp l rho (d + 7) 49 13 [(2, 82), (0, 0), (9, 0), (9, 0), (9, 0), (9, 0)] [(0, 0)] h Q
      rw [show wc ((5 : Nat) : Int) = 4904 from by decide] at xp8
      refine w_istore_n (ls' := [(2, 82), (0, 0), (0, 0), (9, 0), (9, 0), (9, 0)]) gz_49_13 gm_49 rfl rfl rfl ?_
      refine w_aload_n gz_49_14 rfl ?_
      refine w_ldcS gz_49_15 (by decide) ?_
      refine w_inv (k := 1) (as := [(3, ((6 : Nat) : Int))]) (r := []) (x := 82) (ls0 := [(2, 82), (3, ((6 : Nat) : Int)), (9, 0)]) gz_49_17 gm_41 rfl is_82 rd_5 rfl rfl rfl rfl rfl (c_Reader_isWord9_f0 (d := (d + 2)) (x1 := ((6 : Nat) : Int)) (by decide) (cf.trans (by omega)) n_Cu (fun w12 xp13 => ?_) (fun w14 w15 xp16 => ?_))
      ·
        show wp l rho (d + 7) 49 20 [(2, 82), (0, 0), (0, 0), (9, 0), (9, 0), (9, 0)] [(0, 0)] h Q
        rw [show wc ((6 : Nat) : Int) = 8422 from by decide] at xp13
        refine w_istore_n (ls' := [(2, 82), (0, 0), (0, 0), (0, 0), (9, 0), (9, 0)]) gz_49_20 gm_49 rfl rfl rfl ?_
        refine w_aload_n gz_49_21 rfl ?_
        refine w_ldcS gz_49_22 (by decide) ?_
        refine w_inv (k := 1) (as := [(3, ((7 : Nat) : Int))]) (r := []) (x := 82) (ls0 := [(2, 82), (3, ((7 : Nat) : Int)), (9, 0)]) gz_49_24 gm_41 rfl is_82 rd_5 rfl rfl rfl rfl rfl (c_Reader_isWord9_f0 (d := (d + 2)) (x1 := ((7 : Nat) : Int)) (by decide) (cf.trans (by omega)) n_Cu (fun w17 xp18 => ?_) (fun w19 w20 xp21 => ?_))
        ·
          show wp l rho (d + 7) 49 27 [(2, 82), (0, 0), (0, 0), (0, 0), (9, 0), (9, 0)] [(0, 0)] h Q
          rw [show wc ((7 : Nat) : Int) = 527412 from by decide] at xp18
          refine w_istore (ls' := [(2, 82), (0, 0), (0, 0), (0, 0), (0, 0), (9, 0)]) gz_49_27 gm_49 rfl rfl rfl ?_
          refine w_aload_n gz_49_29 rfl ?_
          refine w_ldcS gz_49_30 (by decide) ?_
          refine w_inv (k := 1) (as := [(3, ((8 : Nat) : Int))]) (r := []) (x := 82) (ls0 := [(2, 82), (3, ((8 : Nat) : Int)), (9, 0)]) gz_49_32 gm_41 rfl is_82 rd_5 rfl rfl rfl rfl rfl (c_Reader_isWord9_f0 (d := (d + 2)) (x1 := ((8 : Nat) : Int)) (by decide) (cf.trans (by omega)) n_Cu (fun w22 xp23 => ?_) (fun w24 w25 xp26 => ?_))
          ·
            show wp l rho (d + 7) 49 35 [(2, 82), (0, 0), (0, 0), (0, 0), (0, 0), (9, 0)] [(0, 0)] h Q
            rw [show wc ((8 : Nat) : Int) = 26801 from by decide] at xp23
            refine w_istore (ls' := [(2, 82), (0, 0), (0, 0), (0, 0), (0, 0), (0, 0)]) gz_49_35 gm_49 rfl rfl rfl ?_
            refine w_iload_n gz_49_37 rfl ?_
            refine w_ifne (t := 65) gz_49_38 rfl (fun u27 => by exfalso; omega) (fun u27 => ?_)
            refine w_iload_n gz_49_41 rfl ?_
            refine w_ifne (t := 65) gz_49_42 rfl (fun u28 => by exfalso; omega) (fun u28 => ?_)
            refine w_iload_n gz_49_45 rfl ?_
            refine w_ifne (t := 65) gz_49_46 rfl (fun u29 => by exfalso; omega) (fun u29 => ?_)
            refine w_iload gz_49_49 rfl ?_
            refine w_ifne (t := 65) gz_49_51 rfl (fun u30 => by exfalso; omega) (fun u30 => ?_)
            refine w_iload gz_49_54 rfl ?_
            refine w_ifne (t := 65) gz_49_56 rfl (fun u31 => by exfalso; omega) (fun u31 => ?_)
            refine w_aload_n gz_49_59 rfl ?_
            refine w_iconst gz_49_60 (by decide) ?_
            refine w_inv (k := 0) (as := [(0, 1)]) (r := []) (x := 82) (ls0 := [(2, 82), (0, 1)]) gz_49_61 gm_42 rfl is_82 rd_5 rfl rfl rfl rfl rfl ?_
            refine w_aload_n gz_42_0 rfl ?_
            refine v_getI (j := 9) gz_42_1 rfl is_82 rd_5 rfl (fun v32 ev32 pv32 qv32 => ?_)
            have zv32 := ev32.trans cf
            refine w_ifne (t := 20) gz_42_4 rfl (fun u33 => by exfalso; omega) (fun u33 => ?_)
            refine w_aload_n gz_42_7 rfl ?_
            refine w_iload_n gz_42_8 rfl ?_
            refine w_bipush gz_42_9 (by decide) ?_
            refine w_aload_n gz_42_11 rfl ?_
            refine v_getI (j := 7) gz_42_12 rfl is_82 rd_5 rfl (fun v34 ev34 pv34 qv34 => ?_)
            refine w_imul gz_42_15 ⟨by omega, by omega⟩ ?_
            refine w_iadd gz_42_16 ⟨by omega, by omega⟩ ?_
            refine v_putI (j := 9) gz_42_17 rfl is_82 rd_5 rfl (by omega) (by omega) rfl (fun h35 fh35 => ?_)
            have gh35 : my_fr [(4, 4), (4, 5), (4, 6), (4, 7), (4, 8), (4, 9), (5, 5), (5, 6), (5, 7), (5, 8), (5, 9), (32, -1), (33, -1), (34, -1), (35, -1), (36, -1), (37, -1), (38, -1), (39, -1)] h h35 := my_fr.up my_fr.rf is_82 fh35 rfl
            have Ln_h35 : Ln h35 := Ln_ag (my_ag.up fh35 is_82 rfl) n_Ln
            have Sp_h35 : Sp h35 wv := Sp_ag (my_ag.up fh35 is_82 rfl) hwv n_Ln n_Sp
            have Al_h35 : Al h35 := Al_ag (my_ag.up fh35 is_82 rfl) n_Al
            have Cu_h35 : Cu h35 := Cu_ag (my_ag.up fh35 is_82 rfl) n_Cu
            have Lo_h35 : Lo h h35 := Lo_ag (my_ag.up fh35 is_82 rfl) n_Ln (Lo_rf)
            refine w_vret gz_42_20 gm_42 ?_
            show wp l rho (d + 7) 49 64 [(2, 82), (0, 0), (0, 0), (0, 0), (0, 0), (0, 0)] [] h35 Q
            have psR : h35 82 7 = h 82 7 := ((my_up_fld fh35 (by decide)).trans (rfl : h 82 7 = h 82 7))
            have npsR : cs h35 = cs h := cs_eq (fun j => my_fr.at gh35 is_92 rfl) (my_fr.at gh35 is_82 rfl)
            have c36 := (my_up_self fh35)
            exact w_vret gz_49_64 gm_49 (k0 h35 (gh35) (by omega) (by omega) (by first | exact Lo_h35 | exact ⟨st.1, st.2.1, st.2.2.2.2⟩ | exact Or.inl ⟨by omega, zF, st.2.2.1, st.2.2.2.1⟩ | exact Or.inr (Or.inr (Or.inl ⟨by omega, by omega, zC, st.2.2.1, st.2.2.2.1⟩)) | exact Or.inr (Or.inr (Or.inr (Or.inl ⟨by omega, by omega, zW, st.2.2.2.1⟩))) | exact Or.inr (Or.inr (Or.inr (Or.inr (Or.inl ⟨by omega, by omega, zJ, fun _ => st.2.2.1, st.2.2.2.1⟩)))) | exact Or.inr (Or.inr (Or.inr (Or.inr (Or.inr (Or.inl ⟨by omega, by omega, zS, st.2.2.1, st.2.2.2.1⟩))))) | exact ⟨_, _, _, Or.inl ⟨by omega, zF, rfl, rfl⟩⟩ | exact ⟨_, _, _, Or.inr (Or.inr (Or.inl ⟨by omega, by omega, zC, rfl, rfl⟩))⟩ | exact ⟨_, _, _, Or.inr (Or.inr (Or.inr (Or.inl ⟨by omega, by omega, zW, rfl⟩)))⟩ | exact ⟨_, 0, _, Or.inr (Or.inr (Or.inr (Or.inr (Or.inl ⟨by omega, by omega, zJ, fun q => absurd q (by omega), rfl⟩))))⟩ | exact ⟨_, _, _, Or.inr (Or.inr (Or.inr (Or.inr (Or.inr (Or.inl ⟨by omega, by omega, zS, rfl, rfl⟩)))))⟩ | exact ⟨0, 0, 0, Or.inr (Or.inl ⟨by omega, by omega, by omega⟩)⟩ | exact ⟨0, 0, 0, Or.inr (Or.inr (Or.inr (Or.inr (Or.inr (Or.inr ⟨by omega, by omega, by omega, by omega, by omega, by omega⟩)))))⟩ | (exfalso; omega) | omega) (by first | exact Lo_h35 | exact ⟨st.1, st.2.1, st.2.2.2.2⟩ | exact Or.inl ⟨by omega, zF, st.2.2.1, st.2.2.2.1⟩ | exact Or.inr (Or.inr (Or.inl ⟨by omega, by omega, zC, st.2.2.1, st.2.2.2.1⟩)) | exact Or.inr (Or.inr (Or.inr (Or.inl ⟨by omega, by omega, zW, st.2.2.2.1⟩))) | exact Or.inr (Or.inr (Or.inr (Or.inr (Or.inl ⟨by omega, by omega, zJ, fun _ => st.2.2.1, st.2.2.2.1⟩)))) | exact Or.inr (Or.inr (Or.inr (Or.inr (Or.inr (Or.inl ⟨by omega, by omega, zS, st.2.2.1, st.2.2.2.1⟩))))) | exact ⟨_, _, _, Or.inl ⟨by omega, zF, rfl, rfl⟩⟩ | exact ⟨_, _, _, Or.inr (Or.inr (Or.inl ⟨by omega, by omega, zC, rfl, rfl⟩))⟩ | exact ⟨_, _, _, Or.inr (Or.inr (Or.inr (Or.inl ⟨by omega, by omega, zW, rfl⟩)))⟩ | exact ⟨_, 0, _, Or.inr (Or.inr (Or.inr (Or.inr (Or.inl ⟨by omega, by omega, zJ, fun q => absurd q (by omega), rfl⟩))))⟩ | exact ⟨_, _, _, Or.inr (Or.inr (Or.inr (Or.inr (Or.inr (Or.inl ⟨by omega, by omega, zS, rfl, rfl⟩)))))⟩ | exact ⟨0, 0, 0, Or.inr (Or.inl ⟨by omega, by omega, by omega⟩)⟩ | exact ⟨0, 0, 0, Or.inr (Or.inr (Or.inr (Or.inr (Or.inr (Or.inr ⟨by omega, by omega, by omega, by omega, by omega, by omega⟩)))))⟩ | (exfalso; omega) | omega) Ln_h35 Sp_h35 Al_h35 Cu_h35)
          ·
            show wp l rho (d + 7) 49 35 [(2, 82), (0, 0), (0, 0), (0, 0), (0, 0), (9, 0)] [(0, 1)] h Q
            rw [show wc ((8 : Nat) : Int) = 26801 from by decide] at xp26
            refine w_istore (ls' := [(2, 82), (0, 0), (0, 0), (0, 0), (0, 0), (0, 1)]) gz_49_35 gm_49 rfl rfl rfl ?_
            refine w_iload_n gz_49_37 rfl ?_
            refine w_ifne (t := 65) gz_49_38 rfl (fun u37 => by exfalso; omega) (fun u37 => ?_)
            refine w_iload_n gz_49_41 rfl ?_
            refine w_ifne (t := 65) gz_49_42 rfl (fun u38 => by exfalso; omega) (fun u38 => ?_)
            refine w_iload_n gz_49_45 rfl ?_
            refine w_ifne (t := 65) gz_49_46 rfl (fun u39 => by exfalso; omega) (fun u39 => ?_)
            refine w_iload gz_49_49 rfl ?_
            refine w_ifne (t := 65) gz_49_51 rfl (fun u40 => by exfalso; omega) (fun u40 => ?_)
            refine w_iload gz_49_54 rfl ?_
            refine w_ifne (t := 65) gz_49_56 rfl (fun u41 => ?_) (fun u41 => by exfalso; omega)
            refine w_iload_n gz_49_65 rfl ?_
            refine w_ifne (t := 87) gz_49_66 rfl (fun u42 => by exfalso; omega) (fun u42 => ?_)
            refine w_aload_n gz_49_69 rfl ?_
            refine v_getR (j := 2) gz_49_70 rfl is_82 rd_5 rfl (fun v43 ev43 tv43 => ?_)
            have sE73 : v43 = h 82 2 := by first | assumption | omega
            refine v_getI (j := 9) gz_49_73 rfl tv43 rd_4 rfl (fun v44 ev44 pv44 qv44 => ?_)
            have c76 : v44 = h (h 82 2) 9 := by rw [← sE73]; omega
            refine w_bipush gz_49_76 (by decide) ?_
            refine w_iclt (t := 87) gz_49_78 rfl (fun u45 => ?_) (fun u45 => ?_)
            ·
              have St5_ht46 : St5 h := ⟨by subst_vars; omega, by subst_vars; omega⟩
              refine w_aload_n gz_49_87 rfl ?_
              refine w_inv (k := 2) (as := []) (r := []) (x := 82) (ls0 := [(2, 82), (9, 0), (9, 0)]) gz_49_88 gm_37 rfl is_82 rd_5 rfl rfl rfl rfl rfl (c_Reader_nextToken9_f0 (d := (d + 5))  (cf.trans (by omega)) n_Al (fun h47 frh47 w48 w49 w50 xp51 xp52 Al_h47t53 Cu_h47t54 => ?_))
              have gh47 : my_fr [(4, 4), (4, 5), (4, 6), (4, 7), (4, 8), (4, 9), (5, 5), (5, 6), (5, 7), (5, 8), (5, 9), (32, -1), (33, -1), (34, -1), (35, -1), (36, -1), (37, -1), (38, -1), (39, -1)] h h47 := my_fr.tr my_fr.rf (frh47.mo rfl)
              have Ln_h47 : Ln h47 := Ln_ag (my_ag.fr frh47 rfl) n_Ln
              have Sp_h47 : Sp h47 wv := Sp_ag (my_ag.fr frh47 rfl) hwv n_Ln n_Sp
              have Lo_h47 : Lo h h47 := Lo_ag (my_ag.fr frh47 rfl) n_Ln (Lo_rf)
              have St5_h47 : St5 h47 := St5_ag (my_ag.fr frh47 rfl) n_Ln St5_ht46
              show wp l rho (d + 7) 49 91 [(2, 82), (0, 0), (0, 0), (0, 0), (0, 0), (0, 1)] [] h47 Q
              have xc55 := xp51 n_Cu
              have ck56 := Cu_s Cu_h47t54
              rw [show cs h47 = cs h from cs_eq (fun j => my_fr.at gh47 is_92 rfl) (my_fr.at gh47 is_82 rfl)] at ck56
              rw [show h47 82 7 = (sN (cs h) (h 82 7)) from xc55] at ck56
              refine w_iload_n gz_49_91 rfl ?_
              refine w_ifeq (t := 102) gz_49_92 rfl (fun u57 => ?_) (fun u57 => by exfalso; omega)
              refine w_iload_n gz_49_102 rfl ?_
              refine w_ifeq (t := 113) gz_49_103 rfl (fun u58 => ?_) (fun u58 => by exfalso; omega)
              refine w_iload_n gz_49_113 rfl ?_
              refine w_ifeq (t := 124) gz_49_114 rfl (fun u59 => ?_) (fun u59 => by exfalso; omega)
              refine w_iload gz_49_124 rfl ?_
              refine w_ifeq (t := 136) gz_49_126 rfl (fun u60 => ?_) (fun u60 => by exfalso; omega)
              refine w_aload_n gz_49_136 rfl ?_
              refine w_inv (k := 2) (as := []) (r := []) (x := 82) (ls0 := [(2, 82), (9, 0), (9, 0)]) gz_49_137 gm_62 rfl is_82 rd_5 rfl rfl rfl rfl rfl (c_Reader_readSum9_f0 (d := d)  (wv := wv) (((my_fr.at frh47 is_82 rfl).trans cf).trans (by omega)) (by first | assumption | omega) (by first | assumption | omega) Ln_h47 Sp_h47 St5_h47 Al_h47t53 Cu_h47t54 (fun h61 frh61 w62 w63 xp64 xp65 Ln_h61t66 Sp_h61t67 Al_h61t68 Cu_h61t69 => ?_) (fun h70 frh70 w71 xp72 xp73 xp74 Ln_h70t75 Sp_h70t76 Al_h70t77 Cu_h70t78 => ?_))
              ·
                have gh61 : my_fr [(4, 4), (4, 5), (4, 6), (4, 7), (4, 8), (4, 9), (5, 5), (5, 6), (5, 7), (5, 8), (5, 9), (32, -1), (33, -1), (34, -1), (35, -1), (36, -1), (37, -1), (38, -1), (39, -1)] h h61 := my_fr.tr gh47 (frh61.mo rfl)
                show wp l rho (d + 7) 49 140 [(2, 82), (0, 0), (0, 0), (0, 0), (0, 0), (0, 1)] [] h61 Q
                have tE79 : cs h47 = cs h := cs_eq (fun j => my_fr.at gh47 is_92 rfl) (my_fr.at gh47 is_82 rfl)
                rw [tE79] at xp64
                have ps80 : h47 82 7 = (sN (cs h) (h 82 7)) := xc55
                rw [ps80] at xp64
                have q2 : h47 82 2 = h 82 2 := my_fr.at frh47 is_82 rfl
                have q11 : h47 (h 82 2) 1 = h (h 82 2) 1 := my_fr.at frh47 n_Ln.2.2.2.1 rfl
                have q13 : h47 (h 82 2) 3 = h (h 82 2) 3 := my_fr.at frh47 n_Ln.2.2.2.1 rfl
                have q14 : h47 (h 82 2) 4 = h (h 82 2) 4 := my_fr.at frh47 n_Ln.2.2.2.1 rfl
                have q19 : h47 (h 82 2) 9 = h (h 82 2) 9 := my_fr.at frh47 n_Ln.2.2.2.1 rfl
                have qc : h47 2 = h 2 := funext (fun j => my_fr.at frh47 is_2 rfl)
                have zS := xp64
                simp only [q2, q11, q13, q14, q19, qc] at zS
                have Lo_h61t81 : Lo h h61 := Lo_tr Lo_h47 xp65
                have psR : h61 82 7 = h61 82 7 := (rfl : h61 82 7 = h61 82 7)
                have npsR : cs h61 = cs h := cs_eq (fun j => my_fr.at gh61 is_92 rfl) (my_fr.at gh61 is_82 rfl)
                have c82 := (rfl : h61 82 9 = h61 82 9)
                exact w_vret gz_49_140 gm_49 (k0 h61 (gh61) (by omega) (by omega) (by first | exact Lo_h61t81 | exact ⟨st.1, st.2.1, st.2.2.2.2⟩ | exact Or.inl ⟨by omega, zF, st.2.2.1, st.2.2.2.1⟩ | exact Or.inr (Or.inr (Or.inl ⟨by omega, by omega, zC, st.2.2.1, st.2.2.2.1⟩)) | exact Or.inr (Or.inr (Or.inr (Or.inl ⟨by omega, by omega, zW, st.2.2.2.1⟩))) | exact Or.inr (Or.inr (Or.inr (Or.inr (Or.inl ⟨by omega, by omega, zJ, fun _ => st.2.2.1, st.2.2.2.1⟩)))) | exact Or.inr (Or.inr (Or.inr (Or.inr (Or.inr (Or.inl ⟨by omega, by omega, zS, st.2.2.1, st.2.2.2.1⟩))))) | exact ⟨_, _, _, Or.inl ⟨by omega, zF, rfl, rfl⟩⟩ | exact ⟨_, _, _, Or.inr (Or.inr (Or.inl ⟨by omega, by omega, zC, rfl, rfl⟩))⟩ | exact ⟨_, _, _, Or.inr (Or.inr (Or.inr (Or.inl ⟨by omega, by omega, zW, rfl⟩)))⟩ | exact ⟨_, 0, _, Or.inr (Or.inr (Or.inr (Or.inr (Or.inl ⟨by omega, by omega, zJ, fun q => absurd q (by omega), rfl⟩))))⟩ | exact ⟨_, _, _, Or.inr (Or.inr (Or.inr (Or.inr (Or.inr (Or.inl ⟨by omega, by omega, zS, rfl, rfl⟩)))))⟩ | exact ⟨0, 0, 0, Or.inr (Or.inl ⟨by omega, by omega, by omega⟩)⟩ | exact ⟨0, 0, 0, Or.inr (Or.inr (Or.inr (Or.inr (Or.inr (Or.inr ⟨by omega, by omega, by omega, by omega, by omega, by omega⟩)))))⟩ | (exfalso; omega) | omega) (by first | exact Lo_h61t81 | exact ⟨st.1, st.2.1, st.2.2.2.2⟩ | exact Or.inl ⟨by omega, zF, st.2.2.1, st.2.2.2.1⟩ | exact Or.inr (Or.inr (Or.inl ⟨by omega, by omega, zC, st.2.2.1, st.2.2.2.1⟩)) | exact Or.inr (Or.inr (Or.inr (Or.inl ⟨by omega, by omega, zW, st.2.2.2.1⟩))) | exact Or.inr (Or.inr (Or.inr (Or.inr (Or.inl ⟨by omega, by omega, zJ, fun _ => st.2.2.1, st.2.2.2.1⟩)))) | exact Or.inr (Or.inr (Or.inr (Or.inr (Or.inr (Or.inl ⟨by omega, by omega, zS, st.2.2.1, st.2.2.2.1⟩))))) | exact ⟨_, _, _, Or.inl ⟨by omega, zF, rfl, rfl⟩⟩ | exact ⟨_, _, _, Or.inr (Or.inr (Or.inl ⟨by omega, by omega, zC, rfl, rfl⟩))⟩ | exact ⟨_, _, _, Or.inr (Or.inr (Or.inr (Or.inl ⟨by omega, by omega, zW, rfl⟩)))⟩ | exact ⟨_, 0, _, Or.inr (Or.inr (Or.inr (Or.inr (Or.inl ⟨by omega, by omega, zJ, fun q => absurd q (by omega), rfl⟩))))⟩ | exact ⟨_, _, _, Or.inr (Or.inr (Or.inr (Or.inr (Or.inr (Or.inl ⟨by omega, by omega, zS, rfl, rfl⟩)))))⟩ | exact ⟨0, 0, 0, Or.inr (Or.inl ⟨by omega, by omega, by omega⟩)⟩ | exact ⟨0, 0, 0, Or.inr (Or.inr (Or.inr (Or.inr (Or.inr (Or.inr ⟨by omega, by omega, by omega, by omega, by omega, by omega⟩)))))⟩ | (exfalso; omega) | omega) Ln_h61t66 Sp_h61t67 Al_h61t68 Cu_h61t69)
              ·
                have gh70 : my_fr [(4, 4), (4, 5), (4, 6), (4, 7), (4, 8), (4, 9), (5, 5), (5, 6), (5, 7), (5, 8), (5, 9), (32, -1), (33, -1), (34, -1), (35, -1), (36, -1), (37, -1), (38, -1), (39, -1)] h h70 := my_fr.tr gh47 (frh70.mo rfl)
                show wp l rho (d + 7) 49 140 [(2, 82), (0, 0), (0, 0), (0, 0), (0, 0), (0, 1)] [] h70 Q
                have tE83 : cs h47 = cs h := cs_eq (fun j => my_fr.at gh47 is_92 rfl) (my_fr.at gh47 is_82 rfl)
                rw [tE83] at xp72
                have ps84 : h47 82 7 = (sN (cs h) (h 82 7)) := xc55
                rw [ps84] at xp72
                have q2 : h47 82 2 = h 82 2 := my_fr.at frh47 is_82 rfl
                have q11 : h47 (h 82 2) 1 = h (h 82 2) 1 := my_fr.at frh47 n_Ln.2.2.2.1 rfl
                have q13 : h47 (h 82 2) 3 = h (h 82 2) 3 := my_fr.at frh47 n_Ln.2.2.2.1 rfl
                have q14 : h47 (h 82 2) 4 = h (h 82 2) 4 := my_fr.at frh47 n_Ln.2.2.2.1 rfl
                have q19 : h47 (h 82 2) 9 = h (h 82 2) 9 := my_fr.at frh47 n_Ln.2.2.2.1 rfl
                have qc : h47 2 = h 2 := funext (fun j => my_fr.at frh47 is_2 rfl)
                have zS := xp72
                simp only [q2, q11, q13, q14, q19, qc] at zS
                have st := xp73
                unfold Std at st
                simp only [q2, q11, q13, q14, q19, qc] at st
                have Lo_h70t85 : Lo h h70 := Lo_tr Lo_h47 xp74
                have psR : h70 82 7 = h70 82 7 := (rfl : h70 82 7 = h70 82 7)
                have npsR : cs h70 = cs h := cs_eq (fun j => my_fr.at gh70 is_92 rfl) (my_fr.at gh70 is_82 rfl)
                have c86 := w71
                exact w_vret gz_49_140 gm_49 (k1 h70 (gh70) (by omega) (by first | exact Lo_h70t85 | exact ⟨st.1, st.2.1, st.2.2.2.2⟩ | exact Or.inl ⟨by omega, zF, st.2.2.1, st.2.2.2.1⟩ | exact Or.inr (Or.inr (Or.inl ⟨by omega, by omega, zC, st.2.2.1, st.2.2.2.1⟩)) | exact Or.inr (Or.inr (Or.inr (Or.inl ⟨by omega, by omega, zW, st.2.2.2.1⟩))) | exact Or.inr (Or.inr (Or.inr (Or.inr (Or.inl ⟨by omega, by omega, zJ, fun _ => st.2.2.1, st.2.2.2.1⟩)))) | exact Or.inr (Or.inr (Or.inr (Or.inr (Or.inr (Or.inl ⟨by omega, by omega, zS, st.2.2.1, st.2.2.2.1⟩))))) | exact ⟨_, _, _, Or.inl ⟨by omega, zF, rfl, rfl⟩⟩ | exact ⟨_, _, _, Or.inr (Or.inr (Or.inl ⟨by omega, by omega, zC, rfl, rfl⟩))⟩ | exact ⟨_, _, _, Or.inr (Or.inr (Or.inr (Or.inl ⟨by omega, by omega, zW, rfl⟩)))⟩ | exact ⟨_, 0, _, Or.inr (Or.inr (Or.inr (Or.inr (Or.inl ⟨by omega, by omega, zJ, fun q => absurd q (by omega), rfl⟩))))⟩ | exact ⟨_, _, _, Or.inr (Or.inr (Or.inr (Or.inr (Or.inr (Or.inl ⟨by omega, by omega, zS, rfl, rfl⟩)))))⟩ | exact ⟨0, 0, 0, Or.inr (Or.inl ⟨by omega, by omega, by omega⟩)⟩ | exact ⟨0, 0, 0, Or.inr (Or.inr (Or.inr (Or.inr (Or.inr (Or.inr ⟨by omega, by omega, by omega, by omega, by omega, by omega⟩)))))⟩ | (exfalso; omega) | omega) (by first | exact Lo_h70t85 | exact ⟨st.1, st.2.1, st.2.2.2.2⟩ | exact Or.inl ⟨by omega, zF, st.2.2.1, st.2.2.2.1⟩ | exact Or.inr (Or.inr (Or.inl ⟨by omega, by omega, zC, st.2.2.1, st.2.2.2.1⟩)) | exact Or.inr (Or.inr (Or.inr (Or.inl ⟨by omega, by omega, zW, st.2.2.2.1⟩))) | exact Or.inr (Or.inr (Or.inr (Or.inr (Or.inl ⟨by omega, by omega, zJ, fun _ => st.2.2.1, st.2.2.2.1⟩)))) | exact Or.inr (Or.inr (Or.inr (Or.inr (Or.inr (Or.inl ⟨by omega, by omega, zS, st.2.2.1, st.2.2.2.1⟩))))) | exact ⟨_, _, _, Or.inl ⟨by omega, zF, rfl, rfl⟩⟩ | exact ⟨_, _, _, Or.inr (Or.inr (Or.inl ⟨by omega, by omega, zC, rfl, rfl⟩))⟩ | exact ⟨_, _, _, Or.inr (Or.inr (Or.inr (Or.inl ⟨by omega, by omega, zW, rfl⟩)))⟩ | exact ⟨_, 0, _, Or.inr (Or.inr (Or.inr (Or.inr (Or.inl ⟨by omega, by omega, zJ, fun q => absurd q (by omega), rfl⟩))))⟩ | exact ⟨_, _, _, Or.inr (Or.inr (Or.inr (Or.inr (Or.inr (Or.inl ⟨by omega, by omega, zS, rfl, rfl⟩)))))⟩ | exact ⟨0, 0, 0, Or.inr (Or.inl ⟨by omega, by omega, by omega⟩)⟩ | exact ⟨0, 0, 0, Or.inr (Or.inr (Or.inr (Or.inr (Or.inr (Or.inr ⟨by omega, by omega, by omega, by omega, by omega, by omega⟩)))))⟩ | (exfalso; omega) | omega) (by first | exact Lo_h70t85 | exact ⟨st.1, st.2.1, st.2.2.2.2⟩ | exact Or.inl ⟨by omega, zF, st.2.2.1, st.2.2.2.1⟩ | exact Or.inr (Or.inr (Or.inl ⟨by omega, by omega, zC, st.2.2.1, st.2.2.2.1⟩)) | exact Or.inr (Or.inr (Or.inr (Or.inl ⟨by omega, by omega, zW, st.2.2.2.1⟩))) | exact Or.inr (Or.inr (Or.inr (Or.inr (Or.inl ⟨by omega, by omega, zJ, fun _ => st.2.2.1, st.2.2.2.1⟩)))) | exact Or.inr (Or.inr (Or.inr (Or.inr (Or.inr (Or.inl ⟨by omega, by omega, zS, st.2.2.1, st.2.2.2.1⟩))))) | exact ⟨_, _, _, Or.inl ⟨by omega, zF, rfl, rfl⟩⟩ | exact ⟨_, _, _, Or.inr (Or.inr (Or.inl ⟨by omega, by omega, zC, rfl, rfl⟩))⟩ | exact ⟨_, _, _, Or.inr (Or.inr (Or.inr (Or.inl ⟨by omega, by omega, zW, rfl⟩)))⟩ | exact ⟨_, 0, _, Or.inr (Or.inr (Or.inr (Or.inr (Or.inl ⟨by omega, by omega, zJ, fun q => absurd q (by omega), rfl⟩))))⟩ | exact ⟨_, _, _, Or.inr (Or.inr (Or.inr (Or.inr (Or.inr (Or.inl ⟨by omega, by omega, zS, rfl, rfl⟩)))))⟩ | exact ⟨0, 0, 0, Or.inr (Or.inl ⟨by omega, by omega, by omega⟩)⟩ | exact ⟨0, 0, 0, Or.inr (Or.inr (Or.inr (Or.inr (Or.inr (Or.inr ⟨by omega, by omega, by omega, by omega, by omega, by omega⟩)))))⟩ | (exfalso; omega) | omega) Ln_h70t75 Sp_h70t76 Al_h70t77 Cu_h70t78)
            ·
              refine w_aload_n gz_49_81 rfl ?_
              refine w_iconst gz_49_82 (by decide) ?_
              refine w_inv (k := 0) (as := [(0, 5)]) (r := []) (x := 82) (ls0 := [(2, 82), (0, 5)]) gz_49_83 gm_42 rfl is_82 rd_5 rfl rfl rfl rfl rfl ?_
              refine w_aload_n gz_42_0 rfl ?_
              refine v_getI (j := 9) gz_42_1 rfl is_82 rd_5 rfl (fun v87 ev87 pv87 qv87 => ?_)
              have zv87 := ev87.trans cf
              refine w_ifne (t := 20) gz_42_4 rfl (fun u88 => by exfalso; omega) (fun u88 => ?_)
              refine w_aload_n gz_42_7 rfl ?_
              refine w_iload_n gz_42_8 rfl ?_
              refine w_bipush gz_42_9 (by decide) ?_
              refine w_aload_n gz_42_11 rfl ?_
              refine v_getI (j := 7) gz_42_12 rfl is_82 rd_5 rfl (fun v89 ev89 pv89 qv89 => ?_)
              refine w_imul gz_42_15 ⟨by omega, by omega⟩ ?_
              refine w_iadd gz_42_16 ⟨by omega, by omega⟩ ?_
              refine v_putI (j := 9) gz_42_17 rfl is_82 rd_5 rfl (by omega) (by omega) rfl (fun h90 fh90 => ?_)
              have gh90 : my_fr [(4, 4), (4, 5), (4, 6), (4, 7), (4, 8), (4, 9), (5, 5), (5, 6), (5, 7), (5, 8), (5, 9), (32, -1), (33, -1), (34, -1), (35, -1), (36, -1), (37, -1), (38, -1), (39, -1)] h h90 := my_fr.up my_fr.rf is_82 fh90 rfl
              have Ln_h90 : Ln h90 := Ln_ag (my_ag.up fh90 is_82 rfl) n_Ln
              have Sp_h90 : Sp h90 wv := Sp_ag (my_ag.up fh90 is_82 rfl) hwv n_Ln n_Sp
              have Al_h90 : Al h90 := Al_ag (my_ag.up fh90 is_82 rfl) n_Al
              have Cu_h90 : Cu h90 := Cu_ag (my_ag.up fh90 is_82 rfl) n_Cu
              have Lo_h90 : Lo h h90 := Lo_ag (my_ag.up fh90 is_82 rfl) n_Ln (Lo_rf)
              refine w_vret gz_42_20 gm_42 ?_
              show wp l rho (d + 7) 49 86 [(2, 82), (0, 0), (0, 0), (0, 0), (0, 0), (0, 1)] [] h90 Q
              have psR : h90 82 7 = h 82 7 := ((my_up_fld fh90 (by decide)).trans (rfl : h 82 7 = h 82 7))
              have npsR : cs h90 = cs h := cs_eq (fun j => my_fr.at gh90 is_92 rfl) (my_fr.at gh90 is_82 rfl)
              have c91 := (my_up_self fh90)
              exact w_vret gz_49_86 gm_49 (k0 h90 (gh90) (by omega) (by omega) (by first | exact Lo_h90 | exact ⟨st.1, st.2.1, st.2.2.2.2⟩ | exact Or.inl ⟨by omega, zF, st.2.2.1, st.2.2.2.1⟩ | exact Or.inr (Or.inr (Or.inl ⟨by omega, by omega, zC, st.2.2.1, st.2.2.2.1⟩)) | exact Or.inr (Or.inr (Or.inr (Or.inl ⟨by omega, by omega, zW, st.2.2.2.1⟩))) | exact Or.inr (Or.inr (Or.inr (Or.inr (Or.inl ⟨by omega, by omega, zJ, fun _ => st.2.2.1, st.2.2.2.1⟩)))) | exact Or.inr (Or.inr (Or.inr (Or.inr (Or.inr (Or.inl ⟨by omega, by omega, zS, st.2.2.1, st.2.2.2.1⟩))))) | exact ⟨_, _, _, Or.inl ⟨by omega, zF, rfl, rfl⟩⟩ | exact ⟨_, _, _, Or.inr (Or.inr (Or.inl ⟨by omega, by omega, zC, rfl, rfl⟩))⟩ | exact ⟨_, _, _, Or.inr (Or.inr (Or.inr (Or.inl ⟨by omega, by omega, zW, rfl⟩)))⟩ | exact ⟨_, 0, _, Or.inr (Or.inr (Or.inr (Or.inr (Or.inl ⟨by omega, by omega, zJ, fun q => absurd q (by omega), rfl⟩))))⟩ | exact ⟨_, _, _, Or.inr (Or.inr (Or.inr (Or.inr (Or.inr (Or.inl ⟨by omega, by omega, zS, rfl, rfl⟩)))))⟩ | exact ⟨0, 0, 0, Or.inr (Or.inl ⟨by omega, by omega, by omega⟩)⟩ | exact ⟨0, 0, 0, Or.inr (Or.inr (Or.inr (Or.inr (Or.inr (Or.inr ⟨by omega, by omega, by omega, by omega, by omega, by omega⟩)))))⟩ | (exfalso; omega) | omega) (by first | exact Lo_h90 | exact ⟨st.1, st.2.1, st.2.2.2.2⟩ | exact Or.inl ⟨by omega, zF, st.2.2.1, st.2.2.2.1⟩ | exact Or.inr (Or.inr (Or.inl ⟨by omega, by omega, zC, st.2.2.1, st.2.2.2.1⟩)) | exact Or.inr (Or.inr (Or.inr (Or.inl ⟨by omega, by omega, zW, st.2.2.2.1⟩))) | exact Or.inr (Or.inr (Or.inr (Or.inr (Or.inl ⟨by omega, by omega, zJ, fun _ => st.2.2.1, st.2.2.2.1⟩)))) | exact Or.inr (Or.inr (Or.inr (Or.inr (Or.inr (Or.inl ⟨by omega, by omega, zS, st.2.2.1, st.2.2.2.1⟩))))) | exact ⟨_, _, _, Or.inl ⟨by omega, zF, rfl, rfl⟩⟩ | exact ⟨_, _, _, Or.inr (Or.inr (Or.inl ⟨by omega, by omega, zC, rfl, rfl⟩))⟩ | exact ⟨_, _, _, Or.inr (Or.inr (Or.inr (Or.inl ⟨by omega, by omega, zW, rfl⟩)))⟩ | exact ⟨_, 0, _, Or.inr (Or.inr (Or.inr (Or.inr (Or.inl ⟨by omega, by omega, zJ, fun q => absurd q (by omega), rfl⟩))))⟩ | exact ⟨_, _, _, Or.inr (Or.inr (Or.inr (Or.inr (Or.inr (Or.inl ⟨by omega, by omega, zS, rfl, rfl⟩)))))⟩ | exact ⟨0, 0, 0, Or.inr (Or.inl ⟨by omega, by omega, by omega⟩)⟩ | exact ⟨0, 0, 0, Or.inr (Or.inr (Or.inr (Or.inr (Or.inr (Or.inr ⟨by omega, by omega, by omega, by omega, by omega, by omega⟩)))))⟩ | (exfalso; omega) | omega) Ln_h90 Sp_h90 Al_h90 Cu_h90)
        ·
          show wp l rho (d + 7) 49 27 [(2, 82), (0, 0), (0, 0), (0, 0), (9, 0), (9, 0)] [(0, 1)] h Q
          rw [show wc ((7 : Nat) : Int) = 527412 from by decide] at xp21
          refine w_istore (ls' := [(2, 82), (0, 0), (0, 0), (0, 0), (0, 1), (9, 0)]) gz_49_27 gm_49 rfl rfl rfl ?_
          refine w_aload_n gz_49_29 rfl ?_
          refine w_ldcS gz_49_30 (by decide) ?_
          refine w_inv (k := 1) (as := [(3, ((8 : Nat) : Int))]) (r := []) (x := 82) (ls0 := [(2, 82), (3, ((8 : Nat) : Int)), (9, 0)]) gz_49_32 gm_41 rfl is_82 rd_5 rfl rfl rfl rfl rfl (c_Reader_isWord9_f0 (d := (d + 2)) (x1 := ((8 : Nat) : Int)) (by decide) (cf.trans (by omega)) n_Cu (fun w92 xp93 => ?_) (fun w94 w95 xp96 => ?_))
          ·
            show wp l rho (d + 7) 49 35 [(2, 82), (0, 0), (0, 0), (0, 0), (0, 1), (9, 0)] [(0, 0)] h Q
            rw [show wc ((8 : Nat) : Int) = 26801 from by decide] at xp93
            refine w_istore (ls' := [(2, 82), (0, 0), (0, 0), (0, 0), (0, 1), (0, 0)]) gz_49_35 gm_49 rfl rfl rfl ?_
            refine w_iload_n gz_49_37 rfl ?_
            refine w_ifne (t := 65) gz_49_38 rfl (fun u97 => by exfalso; omega) (fun u97 => ?_)
            refine w_iload_n gz_49_41 rfl ?_
            refine w_ifne (t := 65) gz_49_42 rfl (fun u98 => by exfalso; omega) (fun u98 => ?_)
            refine w_iload_n gz_49_45 rfl ?_
            refine w_ifne (t := 65) gz_49_46 rfl (fun u99 => by exfalso; omega) (fun u99 => ?_)
            refine w_iload gz_49_49 rfl ?_
            refine w_ifne (t := 65) gz_49_51 rfl (fun u100 => ?_) (fun u100 => by exfalso; omega)
            refine w_iload_n gz_49_65 rfl ?_
            refine w_ifne (t := 87) gz_49_66 rfl (fun u101 => by exfalso; omega) (fun u101 => ?_)
            refine w_aload_n gz_49_69 rfl ?_
            refine v_getR (j := 2) gz_49_70 rfl is_82 rd_5 rfl (fun v102 ev102 tv102 => ?_)
            have sE73 : v102 = h 82 2 := by first | assumption | omega
            refine v_getI (j := 9) gz_49_73 rfl tv102 rd_4 rfl (fun v103 ev103 pv103 qv103 => ?_)
            have c76 : v103 = h (h 82 2) 9 := by rw [← sE73]; omega
            refine w_bipush gz_49_76 (by decide) ?_
            refine w_iclt (t := 87) gz_49_78 rfl (fun u104 => ?_) (fun u104 => ?_)
            ·
              have St5_ht105 : St5 h := ⟨by subst_vars; omega, by subst_vars; omega⟩
              refine w_aload_n gz_49_87 rfl ?_
              refine w_inv (k := 2) (as := []) (r := []) (x := 82) (ls0 := [(2, 82), (9, 0), (9, 0)]) gz_49_88 gm_37 rfl is_82 rd_5 rfl rfl rfl rfl rfl (c_Reader_nextToken9_f0 (d := (d + 5))  (cf.trans (by omega)) n_Al (fun h106 frh106 w107 w108 w109 xp110 xp111 Al_h106t112 Cu_h106t113 => ?_))
              have gh106 : my_fr [(4, 4), (4, 5), (4, 6), (4, 7), (4, 8), (4, 9), (5, 5), (5, 6), (5, 7), (5, 8), (5, 9), (32, -1), (33, -1), (34, -1), (35, -1), (36, -1), (37, -1), (38, -1), (39, -1)] h h106 := my_fr.tr my_fr.rf (frh106.mo rfl)
              have Ln_h106 : Ln h106 := Ln_ag (my_ag.fr frh106 rfl) n_Ln
              have Sp_h106 : Sp h106 wv := Sp_ag (my_ag.fr frh106 rfl) hwv n_Ln n_Sp
              have Lo_h106 : Lo h h106 := Lo_ag (my_ag.fr frh106 rfl) n_Ln (Lo_rf)
              have St5_h106 : St5 h106 := St5_ag (my_ag.fr frh106 rfl) n_Ln St5_ht105
              show wp l rho (d + 7) 49 91 [(2, 82), (0, 0), (0, 0), (0, 0), (0, 1), (0, 0)] [] h106 Q
              have xc114 := xp110 n_Cu
              have ck115 := Cu_s Cu_h106t113
              rw [show cs h106 = cs h from cs_eq (fun j => my_fr.at gh106 is_92 rfl) (my_fr.at gh106 is_82 rfl)] at ck115
              rw [show h106 82 7 = (sN (cs h) (h 82 7)) from xc114] at ck115
              refine w_iload_n gz_49_91 rfl ?_
              refine w_ifeq (t := 102) gz_49_92 rfl (fun u116 => ?_) (fun u116 => by exfalso; omega)
              refine w_iload_n gz_49_102 rfl ?_
              refine w_ifeq (t := 113) gz_49_103 rfl (fun u117 => ?_) (fun u117 => by exfalso; omega)
              refine w_iload_n gz_49_113 rfl ?_
              refine w_ifeq (t := 124) gz_49_114 rfl (fun u118 => ?_) (fun u118 => by exfalso; omega)
              refine w_iload gz_49_124 rfl ?_
              refine w_ifeq (t := 136) gz_49_126 rfl (fun u119 => by exfalso; omega) (fun u119 => ?_)
              refine w_aload_n gz_49_129 rfl ?_
              refine w_inv (k := 3) (as := []) (r := []) (x := 82) (ls0 := [(2, 82), (9, 0), (9, 0), (9, 0)]) gz_49_130 gm_60 rfl is_82 rd_5 rfl rfl rfl rfl rfl (c_Reader_readJoin9_f0 (d := d)  (wv := wv) (((my_fr.at frh106 is_82 rfl).trans cf).trans (by omega)) (by first | assumption | omega) (by first | assumption | omega) Ln_h106 Sp_h106 St5_h106 Al_h106t112 Cu_h106t113 (fun h120 frh120 w121 w122 xp123 xp124 Ln_h120t125 Sp_h120t126 Al_h120t127 Cu_h120t128 => ?_) (fun h129 frh129 w130 xp131 xp132 xp133 Ln_h129t134 Sp_h129t135 Al_h129t136 Cu_h129t137 => ?_))
              ·
                have gh120 : my_fr [(4, 4), (4, 5), (4, 6), (4, 7), (4, 8), (4, 9), (5, 5), (5, 6), (5, 7), (5, 8), (5, 9), (32, -1), (33, -1), (34, -1), (35, -1), (36, -1), (37, -1), (38, -1), (39, -1)] h h120 := my_fr.tr gh106 (frh120.mo rfl)
                show wp l rho (d + 7) 49 133 [(2, 82), (0, 0), (0, 0), (0, 0), (0, 1), (0, 0)] [] h120 Q
                have tE138 : cs h106 = cs h := cs_eq (fun j => my_fr.at gh106 is_92 rfl) (my_fr.at gh106 is_82 rfl)
                rw [tE138] at xp123
                have ps139 : h106 82 7 = (sN (cs h) (h 82 7)) := xc114
                rw [ps139] at xp123
                have q2 : h106 82 2 = h 82 2 := my_fr.at frh106 is_82 rfl
                have q11 : h106 (h 82 2) 1 = h (h 82 2) 1 := my_fr.at frh106 n_Ln.2.2.2.1 rfl
                have q13 : h106 (h 82 2) 3 = h (h 82 2) 3 := my_fr.at frh106 n_Ln.2.2.2.1 rfl
                have q14 : h106 (h 82 2) 4 = h (h 82 2) 4 := my_fr.at frh106 n_Ln.2.2.2.1 rfl
                have q19 : h106 (h 82 2) 9 = h (h 82 2) 9 := my_fr.at frh106 n_Ln.2.2.2.1 rfl
                have qc : h106 2 = h 2 := funext (fun j => my_fr.at frh106 is_2 rfl)
                have zJ := xp123
                simp only [q2, q11, q13, q14, q19, qc] at zJ
                have Lo_h120t140 : Lo h h120 := Lo_tr Lo_h106 xp124
                refine w_goto (t := 140) gz_49_133 rfl ?_
                have psR : h120 82 7 = h120 82 7 := (rfl : h120 82 7 = h120 82 7)
                have npsR : cs h120 = cs h := cs_eq (fun j => my_fr.at gh120 is_92 rfl) (my_fr.at gh120 is_82 rfl)
                have c141 := (rfl : h120 82 9 = h120 82 9)
                exact w_vret gz_49_140 gm_49 (k0 h120 (gh120) (by omega) (by omega) (by first | exact Lo_h120t140 | exact ⟨st.1, st.2.1, st.2.2.2.2⟩ | exact Or.inl ⟨by omega, zF, st.2.2.1, st.2.2.2.1⟩ | exact Or.inr (Or.inr (Or.inl ⟨by omega, by omega, zC, st.2.2.1, st.2.2.2.1⟩)) | exact Or.inr (Or.inr (Or.inr (Or.inl ⟨by omega, by omega, zW, st.2.2.2.1⟩))) | exact Or.inr (Or.inr (Or.inr (Or.inr (Or.inl ⟨by omega, by omega, zJ, fun _ => st.2.2.1, st.2.2.2.1⟩)))) | exact Or.inr (Or.inr (Or.inr (Or.inr (Or.inr (Or.inl ⟨by omega, by omega, zS, st.2.2.1, st.2.2.2.1⟩))))) | exact ⟨_, _, _, Or.inl ⟨by omega, zF, rfl, rfl⟩⟩ | exact ⟨_, _, _, Or.inr (Or.inr (Or.inl ⟨by omega, by omega, zC, rfl, rfl⟩))⟩ | exact ⟨_, _, _, Or.inr (Or.inr (Or.inr (Or.inl ⟨by omega, by omega, zW, rfl⟩)))⟩ | exact ⟨_, 0, _, Or.inr (Or.inr (Or.inr (Or.inr (Or.inl ⟨by omega, by omega, zJ, fun q => absurd q (by omega), rfl⟩))))⟩ | exact ⟨_, _, _, Or.inr (Or.inr (Or.inr (Or.inr (Or.inr (Or.inl ⟨by omega, by omega, zS, rfl, rfl⟩)))))⟩ | exact ⟨0, 0, 0, Or.inr (Or.inl ⟨by omega, by omega, by omega⟩)⟩ | exact ⟨0, 0, 0, Or.inr (Or.inr (Or.inr (Or.inr (Or.inr (Or.inr ⟨by omega, by omega, by omega, by omega, by omega, by omega⟩)))))⟩ | (exfalso; omega) | omega) (by first | exact Lo_h120t140 | exact ⟨st.1, st.2.1, st.2.2.2.2⟩ | exact Or.inl ⟨by omega, zF, st.2.2.1, st.2.2.2.1⟩ | exact Or.inr (Or.inr (Or.inl ⟨by omega, by omega, zC, st.2.2.1, st.2.2.2.1⟩)) | exact Or.inr (Or.inr (Or.inr (Or.inl ⟨by omega, by omega, zW, st.2.2.2.1⟩))) | exact Or.inr (Or.inr (Or.inr (Or.inr (Or.inl ⟨by omega, by omega, zJ, fun _ => st.2.2.1, st.2.2.2.1⟩)))) | exact Or.inr (Or.inr (Or.inr (Or.inr (Or.inr (Or.inl ⟨by omega, by omega, zS, st.2.2.1, st.2.2.2.1⟩))))) | exact ⟨_, _, _, Or.inl ⟨by omega, zF, rfl, rfl⟩⟩ | exact ⟨_, _, _, Or.inr (Or.inr (Or.inl ⟨by omega, by omega, zC, rfl, rfl⟩))⟩ | exact ⟨_, _, _, Or.inr (Or.inr (Or.inr (Or.inl ⟨by omega, by omega, zW, rfl⟩)))⟩ | exact ⟨_, 0, _, Or.inr (Or.inr (Or.inr (Or.inr (Or.inl ⟨by omega, by omega, zJ, fun q => absurd q (by omega), rfl⟩))))⟩ | exact ⟨_, _, _, Or.inr (Or.inr (Or.inr (Or.inr (Or.inr (Or.inl ⟨by omega, by omega, zS, rfl, rfl⟩)))))⟩ | exact ⟨0, 0, 0, Or.inr (Or.inl ⟨by omega, by omega, by omega⟩)⟩ | exact ⟨0, 0, 0, Or.inr (Or.inr (Or.inr (Or.inr (Or.inr (Or.inr ⟨by omega, by omega, by omega, by omega, by omega, by omega⟩)))))⟩ | (exfalso; omega) | omega) Ln_h120t125 Sp_h120t126 Al_h120t127 Cu_h120t128)
              ·
                have gh129 : my_fr [(4, 4), (4, 5), (4, 6), (4, 7), (4, 8), (4, 9), (5, 5), (5, 6), (5, 7), (5, 8), (5, 9), (32, -1), (33, -1), (34, -1), (35, -1), (36, -1), (37, -1), (38, -1), (39, -1)] h h129 := my_fr.tr gh106 (frh129.mo rfl)
                show wp l rho (d + 7) 49 133 [(2, 82), (0, 0), (0, 0), (0, 0), (0, 1), (0, 0)] [] h129 Q
                have tE142 : cs h106 = cs h := cs_eq (fun j => my_fr.at gh106 is_92 rfl) (my_fr.at gh106 is_82 rfl)
                rw [tE142] at xp131
                have ps143 : h106 82 7 = (sN (cs h) (h 82 7)) := xc114
                rw [ps143] at xp131
                rw [tE142] at xp132
                rw [ps143] at xp132
                have q2 : h106 82 2 = h 82 2 := my_fr.at frh106 is_82 rfl
                have q11 : h106 (h 82 2) 1 = h (h 82 2) 1 := my_fr.at frh106 n_Ln.2.2.2.1 rfl
                have q13 : h106 (h 82 2) 3 = h (h 82 2) 3 := my_fr.at frh106 n_Ln.2.2.2.1 rfl
                have q14 : h106 (h 82 2) 4 = h (h 82 2) 4 := my_fr.at frh106 n_Ln.2.2.2.1 rfl
                have q19 : h106 (h 82 2) 9 = h (h 82 2) 9 := my_fr.at frh106 n_Ln.2.2.2.1 rfl
                have qc : h106 2 = h 2 := funext (fun j => my_fr.at frh106 is_2 rfl)
                have zJ := xp131
                simp only [q2, q11, q13, q14, q19, qc] at zJ
                have st := xp132
                unfold Std at st
                simp only [q2, q11, q13, q14, q19, qc] at st
                have Lo_h129t144 : Lo h h129 := Lo_tr Lo_h106 xp133
                refine w_goto (t := 140) gz_49_133 rfl ?_
                have psR : h129 82 7 = h129 82 7 := (rfl : h129 82 7 = h129 82 7)
                have npsR : cs h129 = cs h := cs_eq (fun j => my_fr.at gh129 is_92 rfl) (my_fr.at gh129 is_82 rfl)
                have c145 := w130
                exact w_vret gz_49_140 gm_49 (k1 h129 (gh129) (by omega) (by first | exact Lo_h129t144 | exact ⟨st.1, st.2.1, st.2.2.2.2⟩ | exact Or.inl ⟨by omega, zF, st.2.2.1, st.2.2.2.1⟩ | exact Or.inr (Or.inr (Or.inl ⟨by omega, by omega, zC, st.2.2.1, st.2.2.2.1⟩)) | exact Or.inr (Or.inr (Or.inr (Or.inl ⟨by omega, by omega, zW, st.2.2.2.1⟩))) | exact Or.inr (Or.inr (Or.inr (Or.inr (Or.inl ⟨by omega, by omega, zJ, fun _ => st.2.2.1, st.2.2.2.1⟩)))) | exact Or.inr (Or.inr (Or.inr (Or.inr (Or.inr (Or.inl ⟨by omega, by omega, zS, st.2.2.1, st.2.2.2.1⟩))))) | exact ⟨_, _, _, Or.inl ⟨by omega, zF, rfl, rfl⟩⟩ | exact ⟨_, _, _, Or.inr (Or.inr (Or.inl ⟨by omega, by omega, zC, rfl, rfl⟩))⟩ | exact ⟨_, _, _, Or.inr (Or.inr (Or.inr (Or.inl ⟨by omega, by omega, zW, rfl⟩)))⟩ | exact ⟨_, 0, _, Or.inr (Or.inr (Or.inr (Or.inr (Or.inl ⟨by omega, by omega, zJ, fun q => absurd q (by omega), rfl⟩))))⟩ | exact ⟨_, _, _, Or.inr (Or.inr (Or.inr (Or.inr (Or.inr (Or.inl ⟨by omega, by omega, zS, rfl, rfl⟩)))))⟩ | exact ⟨0, 0, 0, Or.inr (Or.inl ⟨by omega, by omega, by omega⟩)⟩ | exact ⟨0, 0, 0, Or.inr (Or.inr (Or.inr (Or.inr (Or.inr (Or.inr ⟨by omega, by omega, by omega, by omega, by omega, by omega⟩)))))⟩ | (exfalso; omega) | omega) (by first | exact Lo_h129t144 | exact ⟨st.1, st.2.1, st.2.2.2.2⟩ | exact Or.inl ⟨by omega, zF, st.2.2.1, st.2.2.2.1⟩ | exact Or.inr (Or.inr (Or.inl ⟨by omega, by omega, zC, st.2.2.1, st.2.2.2.1⟩)) | exact Or.inr (Or.inr (Or.inr (Or.inl ⟨by omega, by omega, zW, st.2.2.2.1⟩))) | exact Or.inr (Or.inr (Or.inr (Or.inr (Or.inl ⟨by omega, by omega, zJ, fun _ => st.2.2.1, st.2.2.2.1⟩)))) | exact Or.inr (Or.inr (Or.inr (Or.inr (Or.inr (Or.inl ⟨by omega, by omega, zS, st.2.2.1, st.2.2.2.1⟩))))) | exact ⟨_, _, _, Or.inl ⟨by omega, zF, rfl, rfl⟩⟩ | exact ⟨_, _, _, Or.inr (Or.inr (Or.inl ⟨by omega, by omega, zC, rfl, rfl⟩))⟩ | exact ⟨_, _, _, Or.inr (Or.inr (Or.inr (Or.inl ⟨by omega, by omega, zW, rfl⟩)))⟩ | exact ⟨_, 0, _, Or.inr (Or.inr (Or.inr (Or.inr (Or.inl ⟨by omega, by omega, zJ, fun q => absurd q (by omega), rfl⟩))))⟩ | exact ⟨_, _, _, Or.inr (Or.inr (Or.inr (Or.inr (Or.inr (Or.inl ⟨by omega, by omega, zS, rfl, rfl⟩)))))⟩ | exact ⟨0, 0, 0, Or.inr (Or.inl ⟨by omega, by omega, by omega⟩)⟩ | exact ⟨0, 0, 0, Or.inr (Or.inr (Or.inr (Or.inr (Or.inr (Or.inr ⟨by omega, by omega, by omega, by omega, by omega, by omega⟩)))))⟩ | (exfalso; omega) | omega) (by first | exact Lo_h129t144 | exact ⟨st.1, st.2.1, st.2.2.2.2⟩ | exact Or.inl ⟨by omega, zF, st.2.2.1, st.2.2.2.1⟩ | exact Or.inr (Or.inr (Or.inl ⟨by omega, by omega, zC, st.2.2.1, st.2.2.2.1⟩)) | exact Or.inr (Or.inr (Or.inr (Or.inl ⟨by omega, by omega, zW, st.2.2.2.1⟩))) | exact Or.inr (Or.inr (Or.inr (Or.inr (Or.inl ⟨by omega, by omega, zJ, fun _ => st.2.2.1, st.2.2.2.1⟩)))) | exact Or.inr (Or.inr (Or.inr (Or.inr (Or.inr (Or.inl ⟨by omega, by omega, zS, st.2.2.1, st.2.2.2.1⟩))))) | exact ⟨_, _, _, Or.inl ⟨by omega, zF, rfl, rfl⟩⟩ | exact ⟨_, _, _, Or.inr (Or.inr (Or.inl ⟨by omega, by omega, zC, rfl, rfl⟩))⟩ | exact ⟨_, _, _, Or.inr (Or.inr (Or.inr (Or.inl ⟨by omega, by omega, zW, rfl⟩)))⟩ | exact ⟨_, 0, _, Or.inr (Or.inr (Or.inr (Or.inr (Or.inl ⟨by omega, by omega, zJ, fun q => absurd q (by omega), rfl⟩))))⟩ | exact ⟨_, _, _, Or.inr (Or.inr (Or.inr (Or.inr (Or.inr (Or.inl ⟨by omega, by omega, zS, rfl, rfl⟩)))))⟩ | exact ⟨0, 0, 0, Or.inr (Or.inl ⟨by omega, by omega, by omega⟩)⟩ | exact ⟨0, 0, 0, Or.inr (Or.inr (Or.inr (Or.inr (Or.inr (Or.inr ⟨by omega, by omega, by omega, by omega, by omega, by omega⟩)))))⟩ | (exfalso; omega) | omega) Ln_h129t134 Sp_h129t135 Al_h129t136 Cu_h129t137)
            ·
              refine w_aload_n gz_49_81 rfl ?_
              refine w_iconst gz_49_82 (by decide) ?_
              refine w_inv (k := 0) (as := [(0, 5)]) (r := []) (x := 82) (ls0 := [(2, 82), (0, 5)]) gz_49_83 gm_42 rfl is_82 rd_5 rfl rfl rfl rfl rfl ?_
              refine w_aload_n gz_42_0 rfl ?_
              refine v_getI (j := 9) gz_42_1 rfl is_82 rd_5 rfl (fun v146 ev146 pv146 qv146 => ?_)
              have zv146 := ev146.trans cf
              refine w_ifne (t := 20) gz_42_4 rfl (fun u147 => by exfalso; omega) (fun u147 => ?_)
              refine w_aload_n gz_42_7 rfl ?_
              refine w_iload_n gz_42_8 rfl ?_
              refine w_bipush gz_42_9 (by decide) ?_
              refine w_aload_n gz_42_11 rfl ?_
              refine v_getI (j := 7) gz_42_12 rfl is_82 rd_5 rfl (fun v148 ev148 pv148 qv148 => ?_)
              refine w_imul gz_42_15 ⟨by omega, by omega⟩ ?_
              refine w_iadd gz_42_16 ⟨by omega, by omega⟩ ?_
              refine v_putI (j := 9) gz_42_17 rfl is_82 rd_5 rfl (by omega) (by omega) rfl (fun h149 fh149 => ?_)
              have gh149 : my_fr [(4, 4), (4, 5), (4, 6), (4, 7), (4, 8), (4, 9), (5, 5), (5, 6), (5, 7), (5, 8), (5, 9), (32, -1), (33, -1), (34, -1), (35, -1), (36, -1), (37, -1), (38, -1), (39, -1)] h h149 := my_fr.up my_fr.rf is_82 fh149 rfl
              have Ln_h149 : Ln h149 := Ln_ag (my_ag.up fh149 is_82 rfl) n_Ln
              have Sp_h149 : Sp h149 wv := Sp_ag (my_ag.up fh149 is_82 rfl) hwv n_Ln n_Sp
              have Al_h149 : Al h149 := Al_ag (my_ag.up fh149 is_82 rfl) n_Al
              have Cu_h149 : Cu h149 := Cu_ag (my_ag.up fh149 is_82 rfl) n_Cu
              have Lo_h149 : Lo h h149 := Lo_ag (my_ag.up fh149 is_82 rfl) n_Ln (Lo_rf)
              refine w_vret gz_42_20 gm_42 ?_
              show wp l rho (d + 7) 49 86 [(2, 82), (0, 0), (0, 0), (0, 0), (0, 1), (0, 0)] [] h149 Q
              have psR : h149 82 7 = h 82 7 := ((my_up_fld fh149 (by decide)).trans (rfl : h 82 7 = h 82 7))
              have npsR : cs h149 = cs h := cs_eq (fun j => my_fr.at gh149 is_92 rfl) (my_fr.at gh149 is_82 rfl)
              have c150 := (my_up_self fh149)
              exact w_vret gz_49_86 gm_49 (k0 h149 (gh149) (by omega) (by omega) (by first | exact Lo_h149 | exact ⟨st.1, st.2.1, st.2.2.2.2⟩ | exact Or.inl ⟨by omega, zF, st.2.2.1, st.2.2.2.1⟩ | exact Or.inr (Or.inr (Or.inl ⟨by omega, by omega, zC, st.2.2.1, st.2.2.2.1⟩)) | exact Or.inr (Or.inr (Or.inr (Or.inl ⟨by omega, by omega, zW, st.2.2.2.1⟩))) | exact Or.inr (Or.inr (Or.inr (Or.inr (Or.inl ⟨by omega, by omega, zJ, fun _ => st.2.2.1, st.2.2.2.1⟩)))) | exact Or.inr (Or.inr (Or.inr (Or.inr (Or.inr (Or.inl ⟨by omega, by omega, zS, st.2.2.1, st.2.2.2.1⟩))))) | exact ⟨_, _, _, Or.inl ⟨by omega, zF, rfl, rfl⟩⟩ | exact ⟨_, _, _, Or.inr (Or.inr (Or.inl ⟨by omega, by omega, zC, rfl, rfl⟩))⟩ | exact ⟨_, _, _, Or.inr (Or.inr (Or.inr (Or.inl ⟨by omega, by omega, zW, rfl⟩)))⟩ | exact ⟨_, 0, _, Or.inr (Or.inr (Or.inr (Or.inr (Or.inl ⟨by omega, by omega, zJ, fun q => absurd q (by omega), rfl⟩))))⟩ | exact ⟨_, _, _, Or.inr (Or.inr (Or.inr (Or.inr (Or.inr (Or.inl ⟨by omega, by omega, zS, rfl, rfl⟩)))))⟩ | exact ⟨0, 0, 0, Or.inr (Or.inl ⟨by omega, by omega, by omega⟩)⟩ | exact ⟨0, 0, 0, Or.inr (Or.inr (Or.inr (Or.inr (Or.inr (Or.inr ⟨by omega, by omega, by omega, by omega, by omega, by omega⟩)))))⟩ | (exfalso; omega) | omega) (by first | exact Lo_h149 | exact ⟨st.1, st.2.1, st.2.2.2.2⟩ | exact Or.inl ⟨by omega, zF, st.2.2.1, st.2.2.2.1⟩ | exact Or.inr (Or.inr (Or.inl ⟨by omega, by omega, zC, st.2.2.1, st.2.2.2.1⟩)) | exact Or.inr (Or.inr (Or.inr (Or.inl ⟨by omega, by omega, zW, st.2.2.2.1⟩))) | exact Or.inr (Or.inr (Or.inr (Or.inr (Or.inl ⟨by omega, by omega, zJ, fun _ => st.2.2.1, st.2.2.2.1⟩)))) | exact Or.inr (Or.inr (Or.inr (Or.inr (Or.inr (Or.inl ⟨by omega, by omega, zS, st.2.2.1, st.2.2.2.1⟩))))) | exact ⟨_, _, _, Or.inl ⟨by omega, zF, rfl, rfl⟩⟩ | exact ⟨_, _, _, Or.inr (Or.inr (Or.inl ⟨by omega, by omega, zC, rfl, rfl⟩))⟩ | exact ⟨_, _, _, Or.inr (Or.inr (Or.inr (Or.inl ⟨by omega, by omega, zW, rfl⟩)))⟩ | exact ⟨_, 0, _, Or.inr (Or.inr (Or.inr (Or.inr (Or.inl ⟨by omega, by omega, zJ, fun q => absurd q (by omega), rfl⟩))))⟩ | exact ⟨_, _, _, Or.inr (Or.inr (Or.inr (Or.inr (Or.inr (Or.inl ⟨by omega, by omega, zS, rfl, rfl⟩)))))⟩ | exact ⟨0, 0, 0, Or.inr (Or.inl ⟨by omega, by omega, by omega⟩)⟩ | exact ⟨0, 0, 0, Or.inr (Or.inr (Or.inr (Or.inr (Or.inr (Or.inr ⟨by omega, by omega, by omega, by omega, by omega, by omega⟩)))))⟩ | (exfalso; omega) | omega) Ln_h149 Sp_h149 Al_h149 Cu_h149)
          ·
            show wp l rho (d + 7) 49 35 [(2, 82), (0, 0), (0, 0), (0, 0), (0, 1), (9, 0)] [(0, 1)] h Q
            rw [show wc ((8 : Nat) : Int) = 26801 from by decide] at xp96
            exfalso; omega
      ·
        show wp l rho (d + 7) 49 20 [(2, 82), (0, 0), (0, 0), (9, 0), (9, 0), (9, 0)] [(0, 1)] h Q
        rw [show wc ((6 : Nat) : Int) = 8422 from by decide] at xp16
        refine w_istore_n (ls' := [(2, 82), (0, 0), (0, 0), (0, 1), (9, 0), (9, 0)]) gz_49_20 gm_49 rfl rfl rfl ?_
        refine w_aload_n gz_49_21 rfl ?_
        refine w_ldcS gz_49_22 (by decide) ?_
        refine w_inv (k := 1) (as := [(3, ((7 : Nat) : Int))]) (r := []) (x := 82) (ls0 := [(2, 82), (3, ((7 : Nat) : Int)), (9, 0)]) gz_49_24 gm_41 rfl is_82 rd_5 rfl rfl rfl rfl rfl (c_Reader_isWord9_f0 (d := (d + 2)) (x1 := ((7 : Nat) : Int)) (by decide) (cf.trans (by omega)) n_Cu (fun w151 xp152 => ?_) (fun w153 w154 xp155 => ?_))
        ·
          show wp l rho (d + 7) 49 27 [(2, 82), (0, 0), (0, 0), (0, 1), (9, 0), (9, 0)] [(0, 0)] h Q
          rw [show wc ((7 : Nat) : Int) = 527412 from by decide] at xp152
          refine w_istore (ls' := [(2, 82), (0, 0), (0, 0), (0, 1), (0, 0), (9, 0)]) gz_49_27 gm_49 rfl rfl rfl ?_
          refine w_aload_n gz_49_29 rfl ?_
          refine w_ldcS gz_49_30 (by decide) ?_
          refine w_inv (k := 1) (as := [(3, ((8 : Nat) : Int))]) (r := []) (x := 82) (ls0 := [(2, 82), (3, ((8 : Nat) : Int)), (9, 0)]) gz_49_32 gm_41 rfl is_82 rd_5 rfl rfl rfl rfl rfl (c_Reader_isWord9_f0 (d := (d + 2)) (x1 := ((8 : Nat) : Int)) (by decide) (cf.trans (by omega)) n_Cu (fun w156 xp157 => ?_) (fun w158 w159 xp160 => ?_))
          ·
            show wp l rho (d + 7) 49 35 [(2, 82), (0, 0), (0, 0), (0, 1), (0, 0), (9, 0)] [(0, 0)] h Q
            rw [show wc ((8 : Nat) : Int) = 26801 from by decide] at xp157
            refine w_istore (ls' := [(2, 82), (0, 0), (0, 0), (0, 1), (0, 0), (0, 0)]) gz_49_35 gm_49 rfl rfl rfl ?_
            refine w_iload_n gz_49_37 rfl ?_
            refine w_ifne (t := 65) gz_49_38 rfl (fun u161 => by exfalso; omega) (fun u161 => ?_)
            refine w_iload_n gz_49_41 rfl ?_
            refine w_ifne (t := 65) gz_49_42 rfl (fun u162 => by exfalso; omega) (fun u162 => ?_)
            refine w_iload_n gz_49_45 rfl ?_
            refine w_ifne (t := 65) gz_49_46 rfl (fun u163 => ?_) (fun u163 => by exfalso; omega)
            refine w_iload_n gz_49_65 rfl ?_
            refine w_ifne (t := 87) gz_49_66 rfl (fun u164 => by exfalso; omega) (fun u164 => ?_)
            refine w_aload_n gz_49_69 rfl ?_
            refine v_getR (j := 2) gz_49_70 rfl is_82 rd_5 rfl (fun v165 ev165 tv165 => ?_)
            have sE73 : v165 = h 82 2 := by first | assumption | omega
            refine v_getI (j := 9) gz_49_73 rfl tv165 rd_4 rfl (fun v166 ev166 pv166 qv166 => ?_)
            have c76 : v166 = h (h 82 2) 9 := by rw [← sE73]; omega
            refine w_bipush gz_49_76 (by decide) ?_
            refine w_iclt (t := 87) gz_49_78 rfl (fun u167 => ?_) (fun u167 => ?_)
            ·
              have St5_ht168 : St5 h := ⟨by subst_vars; omega, by subst_vars; omega⟩
              refine w_aload_n gz_49_87 rfl ?_
              refine w_inv (k := 2) (as := []) (r := []) (x := 82) (ls0 := [(2, 82), (9, 0), (9, 0)]) gz_49_88 gm_37 rfl is_82 rd_5 rfl rfl rfl rfl rfl (c_Reader_nextToken9_f0 (d := (d + 5))  (cf.trans (by omega)) n_Al (fun h169 frh169 w170 w171 w172 xp173 xp174 Al_h169t175 Cu_h169t176 => ?_))
              have gh169 : my_fr [(4, 4), (4, 5), (4, 6), (4, 7), (4, 8), (4, 9), (5, 5), (5, 6), (5, 7), (5, 8), (5, 9), (32, -1), (33, -1), (34, -1), (35, -1), (36, -1), (37, -1), (38, -1), (39, -1)] h h169 := my_fr.tr my_fr.rf (frh169.mo rfl)
              have Ln_h169 : Ln h169 := Ln_ag (my_ag.fr frh169 rfl) n_Ln
              have Sp_h169 : Sp h169 wv := Sp_ag (my_ag.fr frh169 rfl) hwv n_Ln n_Sp
              have Lo_h169 : Lo h h169 := Lo_ag (my_ag.fr frh169 rfl) n_Ln (Lo_rf)
              have St5_h169 : St5 h169 := St5_ag (my_ag.fr frh169 rfl) n_Ln St5_ht168
              show wp l rho (d + 7) 49 91 [(2, 82), (0, 0), (0, 0), (0, 1), (0, 0), (0, 0)] [] h169 Q
              have xc177 := xp173 n_Cu
              have ck178 := Cu_s Cu_h169t176
              rw [show cs h169 = cs h from cs_eq (fun j => my_fr.at gh169 is_92 rfl) (my_fr.at gh169 is_82 rfl)] at ck178
              rw [show h169 82 7 = (sN (cs h) (h 82 7)) from xc177] at ck178
              refine w_iload_n gz_49_91 rfl ?_
              refine w_ifeq (t := 102) gz_49_92 rfl (fun u179 => ?_) (fun u179 => by exfalso; omega)
              refine w_iload_n gz_49_102 rfl ?_
              refine w_ifeq (t := 113) gz_49_103 rfl (fun u180 => ?_) (fun u180 => by exfalso; omega)
              refine w_iload_n gz_49_113 rfl ?_
              refine w_ifeq (t := 124) gz_49_114 rfl (fun u181 => by exfalso; omega) (fun u181 => ?_)
              refine w_aload_n gz_49_117 rfl ?_
              refine w_inv (k := 2) (as := []) (r := []) (x := 82) (ls0 := [(2, 82), (9, 0), (9, 0)]) gz_49_118 gm_56 rfl is_82 rd_5 rfl rfl rfl rfl rfl (c_Reader_readFew9_f0 (d := (d + 4))  (wv := wv) (((my_fr.at frh169 is_82 rfl).trans cf).trans (by omega)) (by first | assumption | omega) (by first | assumption | omega) Ln_h169 Sp_h169 St5_h169 Al_h169t175 Cu_h169t176 (fun h182 frh182 w183 w184 xp185 xp186 Ln_h182t187 Sp_h182t188 Al_h182t189 Cu_h182t190 => ?_) (fun h191 frh191 w192 xp193 xp194 xp195 Ln_h191t196 Sp_h191t197 Al_h191t198 Cu_h191t199 => ?_))
              ·
                have gh182 : my_fr [(4, 4), (4, 5), (4, 6), (4, 7), (4, 8), (4, 9), (5, 5), (5, 6), (5, 7), (5, 8), (5, 9), (32, -1), (33, -1), (34, -1), (35, -1), (36, -1), (37, -1), (38, -1), (39, -1)] h h182 := my_fr.tr gh169 (frh182.mo rfl)
                show wp l rho (d + 7) 49 121 [(2, 82), (0, 0), (0, 0), (0, 1), (0, 0), (0, 0)] [] h182 Q
                have tE200 : cs h169 = cs h := cs_eq (fun j => my_fr.at gh169 is_92 rfl) (my_fr.at gh169 is_82 rfl)
                rw [tE200] at xp185
                have ps201 : h169 82 7 = (sN (cs h) (h 82 7)) := xc177
                rw [ps201] at xp185
                have q2 : h169 82 2 = h 82 2 := my_fr.at frh169 is_82 rfl
                have q11 : h169 (h 82 2) 1 = h (h 82 2) 1 := my_fr.at frh169 n_Ln.2.2.2.1 rfl
                have q13 : h169 (h 82 2) 3 = h (h 82 2) 3 := my_fr.at frh169 n_Ln.2.2.2.1 rfl
                have q14 : h169 (h 82 2) 4 = h (h 82 2) 4 := my_fr.at frh169 n_Ln.2.2.2.1 rfl
                have q19 : h169 (h 82 2) 9 = h (h 82 2) 9 := my_fr.at frh169 n_Ln.2.2.2.1 rfl
                have qc : h169 2 = h 2 := funext (fun j => my_fr.at frh169 is_2 rfl)
                have zW := xp185
                simp only [q2, q11, q13, q14, q19, qc] at zW
                have Lo_h182t202 : Lo h h182 := Lo_tr Lo_h169 xp186
                refine w_goto (t := 140) gz_49_121 rfl ?_
                have psR : h182 82 7 = h182 82 7 := (rfl : h182 82 7 = h182 82 7)
                have npsR : cs h182 = cs h := cs_eq (fun j => my_fr.at gh182 is_92 rfl) (my_fr.at gh182 is_82 rfl)
                have c203 := (rfl : h182 82 9 = h182 82 9)
                exact w_vret gz_49_140 gm_49 (k0 h182 (gh182) (by omega) (by omega) (by first | exact Lo_h182t202 | exact ⟨st.1, st.2.1, st.2.2.2.2⟩ | exact Or.inl ⟨by omega, zF, st.2.2.1, st.2.2.2.1⟩ | exact Or.inr (Or.inr (Or.inl ⟨by omega, by omega, zC, st.2.2.1, st.2.2.2.1⟩)) | exact Or.inr (Or.inr (Or.inr (Or.inl ⟨by omega, by omega, zW, st.2.2.2.1⟩))) | exact Or.inr (Or.inr (Or.inr (Or.inr (Or.inl ⟨by omega, by omega, zJ, fun _ => st.2.2.1, st.2.2.2.1⟩)))) | exact Or.inr (Or.inr (Or.inr (Or.inr (Or.inr (Or.inl ⟨by omega, by omega, zS, st.2.2.1, st.2.2.2.1⟩))))) | exact ⟨_, _, _, Or.inl ⟨by omega, zF, rfl, rfl⟩⟩ | exact ⟨_, _, _, Or.inr (Or.inr (Or.inl ⟨by omega, by omega, zC, rfl, rfl⟩))⟩ | exact ⟨_, _, _, Or.inr (Or.inr (Or.inr (Or.inl ⟨by omega, by omega, zW, rfl⟩)))⟩ | exact ⟨_, 0, _, Or.inr (Or.inr (Or.inr (Or.inr (Or.inl ⟨by omega, by omega, zJ, fun q => absurd q (by omega), rfl⟩))))⟩ | exact ⟨_, _, _, Or.inr (Or.inr (Or.inr (Or.inr (Or.inr (Or.inl ⟨by omega, by omega, zS, rfl, rfl⟩)))))⟩ | exact ⟨0, 0, 0, Or.inr (Or.inl ⟨by omega, by omega, by omega⟩)⟩ | exact ⟨0, 0, 0, Or.inr (Or.inr (Or.inr (Or.inr (Or.inr (Or.inr ⟨by omega, by omega, by omega, by omega, by omega, by omega⟩)))))⟩ | (exfalso; omega) | omega) (by first | exact Lo_h182t202 | exact ⟨st.1, st.2.1, st.2.2.2.2⟩ | exact Or.inl ⟨by omega, zF, st.2.2.1, st.2.2.2.1⟩ | exact Or.inr (Or.inr (Or.inl ⟨by omega, by omega, zC, st.2.2.1, st.2.2.2.1⟩)) | exact Or.inr (Or.inr (Or.inr (Or.inl ⟨by omega, by omega, zW, st.2.2.2.1⟩))) | exact Or.inr (Or.inr (Or.inr (Or.inr (Or.inl ⟨by omega, by omega, zJ, fun _ => st.2.2.1, st.2.2.2.1⟩)))) | exact Or.inr (Or.inr (Or.inr (Or.inr (Or.inr (Or.inl ⟨by omega, by omega, zS, st.2.2.1, st.2.2.2.1⟩))))) | exact ⟨_, _, _, Or.inl ⟨by omega, zF, rfl, rfl⟩⟩ | exact ⟨_, _, _, Or.inr (Or.inr (Or.inl ⟨by omega, by omega, zC, rfl, rfl⟩))⟩ | exact ⟨_, _, _, Or.inr (Or.inr (Or.inr (Or.inl ⟨by omega, by omega, zW, rfl⟩)))⟩ | exact ⟨_, 0, _, Or.inr (Or.inr (Or.inr (Or.inr (Or.inl ⟨by omega, by omega, zJ, fun q => absurd q (by omega), rfl⟩))))⟩ | exact ⟨_, _, _, Or.inr (Or.inr (Or.inr (Or.inr (Or.inr (Or.inl ⟨by omega, by omega, zS, rfl, rfl⟩)))))⟩ | exact ⟨0, 0, 0, Or.inr (Or.inl ⟨by omega, by omega, by omega⟩)⟩ | exact ⟨0, 0, 0, Or.inr (Or.inr (Or.inr (Or.inr (Or.inr (Or.inr ⟨by omega, by omega, by omega, by omega, by omega, by omega⟩)))))⟩ | (exfalso; omega) | omega) Ln_h182t187 Sp_h182t188 Al_h182t189 Cu_h182t190)
              ·
                have gh191 : my_fr [(4, 4), (4, 5), (4, 6), (4, 7), (4, 8), (4, 9), (5, 5), (5, 6), (5, 7), (5, 8), (5, 9), (32, -1), (33, -1), (34, -1), (35, -1), (36, -1), (37, -1), (38, -1), (39, -1)] h h191 := my_fr.tr gh169 (frh191.mo rfl)
                show wp l rho (d + 7) 49 121 [(2, 82), (0, 0), (0, 0), (0, 1), (0, 0), (0, 0)] [] h191 Q
                have tE204 : cs h169 = cs h := cs_eq (fun j => my_fr.at gh169 is_92 rfl) (my_fr.at gh169 is_82 rfl)
                rw [tE204] at xp193
                have ps205 : h169 82 7 = (sN (cs h) (h 82 7)) := xc177
                rw [ps205] at xp193
                have q2 : h169 82 2 = h 82 2 := my_fr.at frh169 is_82 rfl
                have q11 : h169 (h 82 2) 1 = h (h 82 2) 1 := my_fr.at frh169 n_Ln.2.2.2.1 rfl
                have q13 : h169 (h 82 2) 3 = h (h 82 2) 3 := my_fr.at frh169 n_Ln.2.2.2.1 rfl
                have q14 : h169 (h 82 2) 4 = h (h 82 2) 4 := my_fr.at frh169 n_Ln.2.2.2.1 rfl
                have q19 : h169 (h 82 2) 9 = h (h 82 2) 9 := my_fr.at frh169 n_Ln.2.2.2.1 rfl
                have qc : h169 2 = h 2 := funext (fun j => my_fr.at frh169 is_2 rfl)
                have zW := xp193
                simp only [q2, q11, q13, q14, q19, qc] at zW
                have st := xp194
                unfold Std at st
                simp only [q2, q11, q13, q14, q19, qc] at st
                have Lo_h191t206 : Lo h h191 := Lo_tr Lo_h169 xp195
                refine w_goto (t := 140) gz_49_121 rfl ?_
                have psR : h191 82 7 = h191 82 7 := (rfl : h191 82 7 = h191 82 7)
                have npsR : cs h191 = cs h := cs_eq (fun j => my_fr.at gh191 is_92 rfl) (my_fr.at gh191 is_82 rfl)
                have c207 := w192
                exact w_vret gz_49_140 gm_49 (k1 h191 (gh191) (by omega) (by first | exact Lo_h191t206 | exact ⟨st.1, st.2.1, st.2.2.2.2⟩ | exact Or.inl ⟨by omega, zF, st.2.2.1, st.2.2.2.1⟩ | exact Or.inr (Or.inr (Or.inl ⟨by omega, by omega, zC, st.2.2.1, st.2.2.2.1⟩)) | exact Or.inr (Or.inr (Or.inr (Or.inl ⟨by omega, by omega, zW, st.2.2.2.1⟩))) | exact Or.inr (Or.inr (Or.inr (Or.inr (Or.inl ⟨by omega, by omega, zJ, fun _ => st.2.2.1, st.2.2.2.1⟩)))) | exact Or.inr (Or.inr (Or.inr (Or.inr (Or.inr (Or.inl ⟨by omega, by omega, zS, st.2.2.1, st.2.2.2.1⟩))))) | exact ⟨_, _, _, Or.inl ⟨by omega, zF, rfl, rfl⟩⟩ | exact ⟨_, _, _, Or.inr (Or.inr (Or.inl ⟨by omega, by omega, zC, rfl, rfl⟩))⟩ | exact ⟨_, _, _, Or.inr (Or.inr (Or.inr (Or.inl ⟨by omega, by omega, zW, rfl⟩)))⟩ | exact ⟨_, 0, _, Or.inr (Or.inr (Or.inr (Or.inr (Or.inl ⟨by omega, by omega, zJ, fun q => absurd q (by omega), rfl⟩))))⟩ | exact ⟨_, _, _, Or.inr (Or.inr (Or.inr (Or.inr (Or.inr (Or.inl ⟨by omega, by omega, zS, rfl, rfl⟩)))))⟩ | exact ⟨0, 0, 0, Or.inr (Or.inl ⟨by omega, by omega, by omega⟩)⟩ | exact ⟨0, 0, 0, Or.inr (Or.inr (Or.inr (Or.inr (Or.inr (Or.inr ⟨by omega, by omega, by omega, by omega, by omega, by omega⟩)))))⟩ | (exfalso; omega) | omega) (by first | exact Lo_h191t206 | exact ⟨st.1, st.2.1, st.2.2.2.2⟩ | exact Or.inl ⟨by omega, zF, st.2.2.1, st.2.2.2.1⟩ | exact Or.inr (Or.inr (Or.inl ⟨by omega, by omega, zC, st.2.2.1, st.2.2.2.1⟩)) | exact Or.inr (Or.inr (Or.inr (Or.inl ⟨by omega, by omega, zW, st.2.2.2.1⟩))) | exact Or.inr (Or.inr (Or.inr (Or.inr (Or.inl ⟨by omega, by omega, zJ, fun _ => st.2.2.1, st.2.2.2.1⟩)))) | exact Or.inr (Or.inr (Or.inr (Or.inr (Or.inr (Or.inl ⟨by omega, by omega, zS, st.2.2.1, st.2.2.2.1⟩))))) | exact ⟨_, _, _, Or.inl ⟨by omega, zF, rfl, rfl⟩⟩ | exact ⟨_, _, _, Or.inr (Or.inr (Or.inl ⟨by omega, by omega, zC, rfl, rfl⟩))⟩ | exact ⟨_, _, _, Or.inr (Or.inr (Or.inr (Or.inl ⟨by omega, by omega, zW, rfl⟩)))⟩ | exact ⟨_, 0, _, Or.inr (Or.inr (Or.inr (Or.inr (Or.inl ⟨by omega, by omega, zJ, fun q => absurd q (by omega), rfl⟩))))⟩ | exact ⟨_, _, _, Or.inr (Or.inr (Or.inr (Or.inr (Or.inr (Or.inl ⟨by omega, by omega, zS, rfl, rfl⟩)))))⟩ | exact ⟨0, 0, 0, Or.inr (Or.inl ⟨by omega, by omega, by omega⟩)⟩ | exact ⟨0, 0, 0, Or.inr (Or.inr (Or.inr (Or.inr (Or.inr (Or.inr ⟨by omega, by omega, by omega, by omega, by omega, by omega⟩)))))⟩ | (exfalso; omega) | omega) (by first | exact Lo_h191t206 | exact ⟨st.1, st.2.1, st.2.2.2.2⟩ | exact Or.inl ⟨by omega, zF, st.2.2.1, st.2.2.2.1⟩ | exact Or.inr (Or.inr (Or.inl ⟨by omega, by omega, zC, st.2.2.1, st.2.2.2.1⟩)) | exact Or.inr (Or.inr (Or.inr (Or.inl ⟨by omega, by omega, zW, st.2.2.2.1⟩))) | exact Or.inr (Or.inr (Or.inr (Or.inr (Or.inl ⟨by omega, by omega, zJ, fun _ => st.2.2.1, st.2.2.2.1⟩)))) | exact Or.inr (Or.inr (Or.inr (Or.inr (Or.inr (Or.inl ⟨by omega, by omega, zS, st.2.2.1, st.2.2.2.1⟩))))) | exact ⟨_, _, _, Or.inl ⟨by omega, zF, rfl, rfl⟩⟩ | exact ⟨_, _, _, Or.inr (Or.inr (Or.inl ⟨by omega, by omega, zC, rfl, rfl⟩))⟩ | exact ⟨_, _, _, Or.inr (Or.inr (Or.inr (Or.inl ⟨by omega, by omega, zW, rfl⟩)))⟩ | exact ⟨_, 0, _, Or.inr (Or.inr (Or.inr (Or.inr (Or.inl ⟨by omega, by omega, zJ, fun q => absurd q (by omega), rfl⟩))))⟩ | exact ⟨_, _, _, Or.inr (Or.inr (Or.inr (Or.inr (Or.inr (Or.inl ⟨by omega, by omega, zS, rfl, rfl⟩)))))⟩ | exact ⟨0, 0, 0, Or.inr (Or.inl ⟨by omega, by omega, by omega⟩)⟩ | exact ⟨0, 0, 0, Or.inr (Or.inr (Or.inr (Or.inr (Or.inr (Or.inr ⟨by omega, by omega, by omega, by omega, by omega, by omega⟩)))))⟩ | (exfalso; omega) | omega) Ln_h191t196 Sp_h191t197 Al_h191t198 Cu_h191t199)
            ·
              refine w_aload_n gz_49_81 rfl ?_
              refine w_iconst gz_49_82 (by decide) ?_
              refine w_inv (k := 0) (as := [(0, 5)]) (r := []) (x := 82) (ls0 := [(2, 82), (0, 5)]) gz_49_83 gm_42 rfl is_82 rd_5 rfl rfl rfl rfl rfl ?_
              refine w_aload_n gz_42_0 rfl ?_
              refine v_getI (j := 9) gz_42_1 rfl is_82 rd_5 rfl (fun v208 ev208 pv208 qv208 => ?_)
              have zv208 := ev208.trans cf
              refine w_ifne (t := 20) gz_42_4 rfl (fun u209 => by exfalso; omega) (fun u209 => ?_)
              refine w_aload_n gz_42_7 rfl ?_
              refine w_iload_n gz_42_8 rfl ?_
              refine w_bipush gz_42_9 (by decide) ?_
              refine w_aload_n gz_42_11 rfl ?_
              refine v_getI (j := 7) gz_42_12 rfl is_82 rd_5 rfl (fun v210 ev210 pv210 qv210 => ?_)
              refine w_imul gz_42_15 ⟨by omega, by omega⟩ ?_
              refine w_iadd gz_42_16 ⟨by omega, by omega⟩ ?_
              refine v_putI (j := 9) gz_42_17 rfl is_82 rd_5 rfl (by omega) (by omega) rfl (fun h211 fh211 => ?_)
              have gh211 : my_fr [(4, 4), (4, 5), (4, 6), (4, 7), (4, 8), (4, 9), (5, 5), (5, 6), (5, 7), (5, 8), (5, 9), (32, -1), (33, -1), (34, -1), (35, -1), (36, -1), (37, -1), (38, -1), (39, -1)] h h211 := my_fr.up my_fr.rf is_82 fh211 rfl
              have Ln_h211 : Ln h211 := Ln_ag (my_ag.up fh211 is_82 rfl) n_Ln
              have Sp_h211 : Sp h211 wv := Sp_ag (my_ag.up fh211 is_82 rfl) hwv n_Ln n_Sp
              have Al_h211 : Al h211 := Al_ag (my_ag.up fh211 is_82 rfl) n_Al
              have Cu_h211 : Cu h211 := Cu_ag (my_ag.up fh211 is_82 rfl) n_Cu
              have Lo_h211 : Lo h h211 := Lo_ag (my_ag.up fh211 is_82 rfl) n_Ln (Lo_rf)
              refine w_vret gz_42_20 gm_42 ?_
              show wp l rho (d + 7) 49 86 [(2, 82), (0, 0), (0, 0), (0, 1), (0, 0), (0, 0)] [] h211 Q
              have psR : h211 82 7 = h 82 7 := ((my_up_fld fh211 (by decide)).trans (rfl : h 82 7 = h 82 7))
              have npsR : cs h211 = cs h := cs_eq (fun j => my_fr.at gh211 is_92 rfl) (my_fr.at gh211 is_82 rfl)
              have c212 := (my_up_self fh211)
              exact w_vret gz_49_86 gm_49 (k0 h211 (gh211) (by omega) (by omega) (by first | exact Lo_h211 | exact ⟨st.1, st.2.1, st.2.2.2.2⟩ | exact Or.inl ⟨by omega, zF, st.2.2.1, st.2.2.2.1⟩ | exact Or.inr (Or.inr (Or.inl ⟨by omega, by omega, zC, st.2.2.1, st.2.2.2.1⟩)) | exact Or.inr (Or.inr (Or.inr (Or.inl ⟨by omega, by omega, zW, st.2.2.2.1⟩))) | exact Or.inr (Or.inr (Or.inr (Or.inr (Or.inl ⟨by omega, by omega, zJ, fun _ => st.2.2.1, st.2.2.2.1⟩)))) | exact Or.inr (Or.inr (Or.inr (Or.inr (Or.inr (Or.inl ⟨by omega, by omega, zS, st.2.2.1, st.2.2.2.1⟩))))) | exact ⟨_, _, _, Or.inl ⟨by omega, zF, rfl, rfl⟩⟩ | exact ⟨_, _, _, Or.inr (Or.inr (Or.inl ⟨by omega, by omega, zC, rfl, rfl⟩))⟩ | exact ⟨_, _, _, Or.inr (Or.inr (Or.inr (Or.inl ⟨by omega, by omega, zW, rfl⟩)))⟩ | exact ⟨_, 0, _, Or.inr (Or.inr (Or.inr (Or.inr (Or.inl ⟨by omega, by omega, zJ, fun q => absurd q (by omega), rfl⟩))))⟩ | exact ⟨_, _, _, Or.inr (Or.inr (Or.inr (Or.inr (Or.inr (Or.inl ⟨by omega, by omega, zS, rfl, rfl⟩)))))⟩ | exact ⟨0, 0, 0, Or.inr (Or.inl ⟨by omega, by omega, by omega⟩)⟩ | exact ⟨0, 0, 0, Or.inr (Or.inr (Or.inr (Or.inr (Or.inr (Or.inr ⟨by omega, by omega, by omega, by omega, by omega, by omega⟩)))))⟩ | (exfalso; omega) | omega) (by first | exact Lo_h211 | exact ⟨st.1, st.2.1, st.2.2.2.2⟩ | exact Or.inl ⟨by omega, zF, st.2.2.1, st.2.2.2.1⟩ | exact Or.inr (Or.inr (Or.inl ⟨by omega, by omega, zC, st.2.2.1, st.2.2.2.1⟩)) | exact Or.inr (Or.inr (Or.inr (Or.inl ⟨by omega, by omega, zW, st.2.2.2.1⟩))) | exact Or.inr (Or.inr (Or.inr (Or.inr (Or.inl ⟨by omega, by omega, zJ, fun _ => st.2.2.1, st.2.2.2.1⟩)))) | exact Or.inr (Or.inr (Or.inr (Or.inr (Or.inr (Or.inl ⟨by omega, by omega, zS, st.2.2.1, st.2.2.2.1⟩))))) | exact ⟨_, _, _, Or.inl ⟨by omega, zF, rfl, rfl⟩⟩ | exact ⟨_, _, _, Or.inr (Or.inr (Or.inl ⟨by omega, by omega, zC, rfl, rfl⟩))⟩ | exact ⟨_, _, _, Or.inr (Or.inr (Or.inr (Or.inl ⟨by omega, by omega, zW, rfl⟩)))⟩ | exact ⟨_, 0, _, Or.inr (Or.inr (Or.inr (Or.inr (Or.inl ⟨by omega, by omega, zJ, fun q => absurd q (by omega), rfl⟩))))⟩ | exact ⟨_, _, _, Or.inr (Or.inr (Or.inr (Or.inr (Or.inr (Or.inl ⟨by omega, by omega, zS, rfl, rfl⟩)))))⟩ | exact ⟨0, 0, 0, Or.inr (Or.inl ⟨by omega, by omega, by omega⟩)⟩ | exact ⟨0, 0, 0, Or.inr (Or.inr (Or.inr (Or.inr (Or.inr (Or.inr ⟨by omega, by omega, by omega, by omega, by omega, by omega⟩)))))⟩ | (exfalso; omega) | omega) Ln_h211 Sp_h211 Al_h211 Cu_h211)
          ·
            show wp l rho (d + 7) 49 35 [(2, 82), (0, 0), (0, 0), (0, 1), (0, 0), (9, 0)] [(0, 1)] h Q
            rw [show wc ((8 : Nat) : Int) = 26801 from by decide] at xp160
            exfalso; omega
        ·
          show wp l rho (d + 7) 49 27 [(2, 82), (0, 0), (0, 0), (0, 1), (9, 0), (9, 0)] [(0, 1)] h Q
          rw [show wc ((7 : Nat) : Int) = 527412 from by decide] at xp155
          exfalso; omega
    ·
      show wp l rho (d + 7) 49 13 [(2, 82), (0, 0), (9, 0), (9, 0), (9, 0), (9, 0)] [(0, 1)] h Q
      rw [show wc ((5 : Nat) : Int) = 4904 from by decide] at xp11
      refine w_istore_n (ls' := [(2, 82), (0, 0), (0, 1), (9, 0), (9, 0), (9, 0)]) gz_49_13 gm_49 rfl rfl rfl ?_
      refine w_aload_n gz_49_14 rfl ?_
      refine w_ldcS gz_49_15 (by decide) ?_
      refine w_inv (k := 1) (as := [(3, ((6 : Nat) : Int))]) (r := []) (x := 82) (ls0 := [(2, 82), (3, ((6 : Nat) : Int)), (9, 0)]) gz_49_17 gm_41 rfl is_82 rd_5 rfl rfl rfl rfl rfl (c_Reader_isWord9_f0 (d := (d + 2)) (x1 := ((6 : Nat) : Int)) (by decide) (cf.trans (by omega)) n_Cu (fun w213 xp214 => ?_) (fun w215 w216 xp217 => ?_))
      ·
        show wp l rho (d + 7) 49 20 [(2, 82), (0, 0), (0, 1), (9, 0), (9, 0), (9, 0)] [(0, 0)] h Q
        rw [show wc ((6 : Nat) : Int) = 8422 from by decide] at xp214
        refine w_istore_n (ls' := [(2, 82), (0, 0), (0, 1), (0, 0), (9, 0), (9, 0)]) gz_49_20 gm_49 rfl rfl rfl ?_
        refine w_aload_n gz_49_21 rfl ?_
        refine w_ldcS gz_49_22 (by decide) ?_
        refine w_inv (k := 1) (as := [(3, ((7 : Nat) : Int))]) (r := []) (x := 82) (ls0 := [(2, 82), (3, ((7 : Nat) : Int)), (9, 0)]) gz_49_24 gm_41 rfl is_82 rd_5 rfl rfl rfl rfl rfl (c_Reader_isWord9_f0 (d := (d + 2)) (x1 := ((7 : Nat) : Int)) (by decide) (cf.trans (by omega)) n_Cu (fun w218 xp219 => ?_) (fun w220 w221 xp222 => ?_))
        ·
          show wp l rho (d + 7) 49 27 [(2, 82), (0, 0), (0, 1), (0, 0), (9, 0), (9, 0)] [(0, 0)] h Q
          rw [show wc ((7 : Nat) : Int) = 527412 from by decide] at xp219
          refine w_istore (ls' := [(2, 82), (0, 0), (0, 1), (0, 0), (0, 0), (9, 0)]) gz_49_27 gm_49 rfl rfl rfl ?_
          refine w_aload_n gz_49_29 rfl ?_
          refine w_ldcS gz_49_30 (by decide) ?_
          refine w_inv (k := 1) (as := [(3, ((8 : Nat) : Int))]) (r := []) (x := 82) (ls0 := [(2, 82), (3, ((8 : Nat) : Int)), (9, 0)]) gz_49_32 gm_41 rfl is_82 rd_5 rfl rfl rfl rfl rfl (c_Reader_isWord9_f0 (d := (d + 2)) (x1 := ((8 : Nat) : Int)) (by decide) (cf.trans (by omega)) n_Cu (fun w223 xp224 => ?_) (fun w225 w226 xp227 => ?_))
          ·
            show wp l rho (d + 7) 49 35 [(2, 82), (0, 0), (0, 1), (0, 0), (0, 0), (9, 0)] [(0, 0)] h Q
            rw [show wc ((8 : Nat) : Int) = 26801 from by decide] at xp224
            refine w_istore (ls' := [(2, 82), (0, 0), (0, 1), (0, 0), (0, 0), (0, 0)]) gz_49_35 gm_49 rfl rfl rfl ?_
            refine w_iload_n gz_49_37 rfl ?_
            refine w_ifne (t := 65) gz_49_38 rfl (fun u228 => by exfalso; omega) (fun u228 => ?_)
            refine w_iload_n gz_49_41 rfl ?_
            refine w_ifne (t := 65) gz_49_42 rfl (fun u229 => ?_) (fun u229 => by exfalso; omega)
            refine w_iload_n gz_49_65 rfl ?_
            refine w_ifne (t := 87) gz_49_66 rfl (fun u230 => by exfalso; omega) (fun u230 => ?_)
            refine w_aload_n gz_49_69 rfl ?_
            refine v_getR (j := 2) gz_49_70 rfl is_82 rd_5 rfl (fun v231 ev231 tv231 => ?_)
            have sE73 : v231 = h 82 2 := by first | assumption | omega
            refine v_getI (j := 9) gz_49_73 rfl tv231 rd_4 rfl (fun v232 ev232 pv232 qv232 => ?_)
            have c76 : v232 = h (h 82 2) 9 := by rw [← sE73]; omega
            refine w_bipush gz_49_76 (by decide) ?_
            refine w_iclt (t := 87) gz_49_78 rfl (fun u233 => ?_) (fun u233 => ?_)
            ·
              have St5_ht234 : St5 h := ⟨by subst_vars; omega, by subst_vars; omega⟩
              refine w_aload_n gz_49_87 rfl ?_
              refine w_inv (k := 2) (as := []) (r := []) (x := 82) (ls0 := [(2, 82), (9, 0), (9, 0)]) gz_49_88 gm_37 rfl is_82 rd_5 rfl rfl rfl rfl rfl (c_Reader_nextToken9_f0 (d := (d + 5))  (cf.trans (by omega)) n_Al (fun h235 frh235 w236 w237 w238 xp239 xp240 Al_h235t241 Cu_h235t242 => ?_))
              have gh235 : my_fr [(4, 4), (4, 5), (4, 6), (4, 7), (4, 8), (4, 9), (5, 5), (5, 6), (5, 7), (5, 8), (5, 9), (32, -1), (33, -1), (34, -1), (35, -1), (36, -1), (37, -1), (38, -1), (39, -1)] h h235 := my_fr.tr my_fr.rf (frh235.mo rfl)
              have Ln_h235 : Ln h235 := Ln_ag (my_ag.fr frh235 rfl) n_Ln
              have Sp_h235 : Sp h235 wv := Sp_ag (my_ag.fr frh235 rfl) hwv n_Ln n_Sp
              have Lo_h235 : Lo h h235 := Lo_ag (my_ag.fr frh235 rfl) n_Ln (Lo_rf)
              have St5_h235 : St5 h235 := St5_ag (my_ag.fr frh235 rfl) n_Ln St5_ht234
              show wp l rho (d + 7) 49 91 [(2, 82), (0, 0), (0, 1), (0, 0), (0, 0), (0, 0)] [] h235 Q
              have xc243 := xp239 n_Cu
              have ck244 := Cu_s Cu_h235t242
              rw [show cs h235 = cs h from cs_eq (fun j => my_fr.at gh235 is_92 rfl) (my_fr.at gh235 is_82 rfl)] at ck244
              rw [show h235 82 7 = (sN (cs h) (h 82 7)) from xc243] at ck244
              refine w_iload_n gz_49_91 rfl ?_
              refine w_ifeq (t := 102) gz_49_92 rfl (fun u245 => ?_) (fun u245 => by exfalso; omega)
              refine w_iload_n gz_49_102 rfl ?_
              refine w_ifeq (t := 113) gz_49_103 rfl (fun u246 => by exfalso; omega) (fun u246 => ?_)
              refine w_aload_n gz_49_106 rfl ?_
              refine w_inv (k := 3) (as := []) (r := []) (x := 82) (ls0 := [(2, 82), (9, 0), (9, 0), (9, 0)]) gz_49_107 gm_52 rfl is_82 rd_5 rfl rfl rfl rfl rfl (c_Reader_readCut9_f0 (d := (d + 1))  (wv := wv) (((my_fr.at frh235 is_82 rfl).trans cf).trans (by omega)) (by first | assumption | omega) (by first | assumption | omega) Ln_h235 Sp_h235 St5_h235 Al_h235t241 Cu_h235t242 (fun h247 frh247 w248 w249 xp250 Ln_h247t251 Sp_h247t252 Al_h247t253 Cu_h247t254 => ?_) (fun h255 frh255 w256 xp257 xp258 Ln_h255t259 Sp_h255t260 Al_h255t261 Cu_h255t262 => ?_))
              ·
                have gh247 : my_fr [(4, 4), (4, 5), (4, 6), (4, 7), (4, 8), (4, 9), (5, 5), (5, 6), (5, 7), (5, 8), (5, 9), (32, -1), (33, -1), (34, -1), (35, -1), (36, -1), (37, -1), (38, -1), (39, -1)] h h247 := my_fr.tr gh235 (frh247.mo rfl)
                have Lo_h247 : Lo h h247 := Lo_ag (my_ag.fr frh247 rfl) Ln_h235 Lo_h235
                show wp l rho (d + 7) 49 110 [(2, 82), (0, 0), (0, 1), (0, 0), (0, 0), (0, 0)] [] h247 Q
                have tE263 : cs h235 = cs h := cs_eq (fun j => my_fr.at gh235 is_92 rfl) (my_fr.at gh235 is_82 rfl)
                rw [tE263] at xp250
                have ps264 : h235 82 7 = (sN (cs h) (h 82 7)) := xc243
                rw [ps264] at xp250
                have q2 : h235 82 2 = h 82 2 := my_fr.at frh235 is_82 rfl
                have q11 : h235 (h 82 2) 1 = h (h 82 2) 1 := my_fr.at frh235 n_Ln.2.2.2.1 rfl
                have q13 : h235 (h 82 2) 3 = h (h 82 2) 3 := my_fr.at frh235 n_Ln.2.2.2.1 rfl
                have q14 : h235 (h 82 2) 4 = h (h 82 2) 4 := my_fr.at frh235 n_Ln.2.2.2.1 rfl
                have q19 : h235 (h 82 2) 9 = h (h 82 2) 9 := my_fr.at frh235 n_Ln.2.2.2.1 rfl
                have qc : h235 2 = h 2 := funext (fun j => my_fr.at frh235 is_2 rfl)
                have zC := xp250
                simp only [q2, q11, q13, q14, q19, qc] at zC
                refine w_goto (t := 140) gz_49_110 rfl ?_
                have psR : h247 82 7 = h247 82 7 := (rfl : h247 82 7 = h247 82 7)
                have npsR : cs h247 = cs h := cs_eq (fun j => my_fr.at gh247 is_92 rfl) (my_fr.at gh247 is_82 rfl)
                have c265 := (rfl : h247 82 9 = h247 82 9)
                exact w_vret gz_49_140 gm_49 (k0 h247 (gh247) (by omega) (by omega) (by first | exact Lo_h247 | exact ⟨st.1, st.2.1, st.2.2.2.2⟩ | exact Or.inl ⟨by omega, zF, st.2.2.1, st.2.2.2.1⟩ | exact Or.inr (Or.inr (Or.inl ⟨by omega, by omega, zC, st.2.2.1, st.2.2.2.1⟩)) | exact Or.inr (Or.inr (Or.inr (Or.inl ⟨by omega, by omega, zW, st.2.2.2.1⟩))) | exact Or.inr (Or.inr (Or.inr (Or.inr (Or.inl ⟨by omega, by omega, zJ, fun _ => st.2.2.1, st.2.2.2.1⟩)))) | exact Or.inr (Or.inr (Or.inr (Or.inr (Or.inr (Or.inl ⟨by omega, by omega, zS, st.2.2.1, st.2.2.2.1⟩))))) | exact ⟨_, _, _, Or.inl ⟨by omega, zF, rfl, rfl⟩⟩ | exact ⟨_, _, _, Or.inr (Or.inr (Or.inl ⟨by omega, by omega, zC, rfl, rfl⟩))⟩ | exact ⟨_, _, _, Or.inr (Or.inr (Or.inr (Or.inl ⟨by omega, by omega, zW, rfl⟩)))⟩ | exact ⟨_, 0, _, Or.inr (Or.inr (Or.inr (Or.inr (Or.inl ⟨by omega, by omega, zJ, fun q => absurd q (by omega), rfl⟩))))⟩ | exact ⟨_, _, _, Or.inr (Or.inr (Or.inr (Or.inr (Or.inr (Or.inl ⟨by omega, by omega, zS, rfl, rfl⟩)))))⟩ | exact ⟨0, 0, 0, Or.inr (Or.inl ⟨by omega, by omega, by omega⟩)⟩ | exact ⟨0, 0, 0, Or.inr (Or.inr (Or.inr (Or.inr (Or.inr (Or.inr ⟨by omega, by omega, by omega, by omega, by omega, by omega⟩)))))⟩ | (exfalso; omega) | omega) (by first | exact Lo_h247 | exact ⟨st.1, st.2.1, st.2.2.2.2⟩ | exact Or.inl ⟨by omega, zF, st.2.2.1, st.2.2.2.1⟩ | exact Or.inr (Or.inr (Or.inl ⟨by omega, by omega, zC, st.2.2.1, st.2.2.2.1⟩)) | exact Or.inr (Or.inr (Or.inr (Or.inl ⟨by omega, by omega, zW, st.2.2.2.1⟩))) | exact Or.inr (Or.inr (Or.inr (Or.inr (Or.inl ⟨by omega, by omega, zJ, fun _ => st.2.2.1, st.2.2.2.1⟩)))) | exact Or.inr (Or.inr (Or.inr (Or.inr (Or.inr (Or.inl ⟨by omega, by omega, zS, st.2.2.1, st.2.2.2.1⟩))))) | exact ⟨_, _, _, Or.inl ⟨by omega, zF, rfl, rfl⟩⟩ | exact ⟨_, _, _, Or.inr (Or.inr (Or.inl ⟨by omega, by omega, zC, rfl, rfl⟩))⟩ | exact ⟨_, _, _, Or.inr (Or.inr (Or.inr (Or.inl ⟨by omega, by omega, zW, rfl⟩)))⟩ | exact ⟨_, 0, _, Or.inr (Or.inr (Or.inr (Or.inr (Or.inl ⟨by omega, by omega, zJ, fun q => absurd q (by omega), rfl⟩))))⟩ | exact ⟨_, _, _, Or.inr (Or.inr (Or.inr (Or.inr (Or.inr (Or.inl ⟨by omega, by omega, zS, rfl, rfl⟩)))))⟩ | exact ⟨0, 0, 0, Or.inr (Or.inl ⟨by omega, by omega, by omega⟩)⟩ | exact ⟨0, 0, 0, Or.inr (Or.inr (Or.inr (Or.inr (Or.inr (Or.inr ⟨by omega, by omega, by omega, by omega, by omega, by omega⟩)))))⟩ | (exfalso; omega) | omega) Ln_h247t251 Sp_h247t252 Al_h247t253 Cu_h247t254)
              ·
                have gh255 : my_fr [(4, 4), (4, 5), (4, 6), (4, 7), (4, 8), (4, 9), (5, 5), (5, 6), (5, 7), (5, 8), (5, 9), (32, -1), (33, -1), (34, -1), (35, -1), (36, -1), (37, -1), (38, -1), (39, -1)] h h255 := my_fr.tr gh235 (frh255.mo rfl)
                have Lo_h255 : Lo h h255 := Lo_ag (my_ag.fr frh255 rfl) Ln_h235 Lo_h235
                show wp l rho (d + 7) 49 110 [(2, 82), (0, 0), (0, 1), (0, 0), (0, 0), (0, 0)] [] h255 Q
                have tE266 : cs h235 = cs h := cs_eq (fun j => my_fr.at gh235 is_92 rfl) (my_fr.at gh235 is_82 rfl)
                rw [tE266] at xp257
                have ps267 : h235 82 7 = (sN (cs h) (h 82 7)) := xc243
                rw [ps267] at xp257
                have q2 : h235 82 2 = h 82 2 := my_fr.at frh235 is_82 rfl
                have q11 : h235 (h 82 2) 1 = h (h 82 2) 1 := my_fr.at frh235 n_Ln.2.2.2.1 rfl
                have q13 : h235 (h 82 2) 3 = h (h 82 2) 3 := my_fr.at frh235 n_Ln.2.2.2.1 rfl
                have q14 : h235 (h 82 2) 4 = h (h 82 2) 4 := my_fr.at frh235 n_Ln.2.2.2.1 rfl
                have q19 : h235 (h 82 2) 9 = h (h 82 2) 9 := my_fr.at frh235 n_Ln.2.2.2.1 rfl
                have qc : h235 2 = h 2 := funext (fun j => my_fr.at frh235 is_2 rfl)
                have zC := xp257
                simp only [q2, q11, q13, q14, q19, qc] at zC
                have st := xp258
                unfold Std at st
                simp only [q2, q11, q13, q14, q19, qc] at st
                refine w_goto (t := 140) gz_49_110 rfl ?_
                have psR : h255 82 7 = h255 82 7 := (rfl : h255 82 7 = h255 82 7)
                have npsR : cs h255 = cs h := cs_eq (fun j => my_fr.at gh255 is_92 rfl) (my_fr.at gh255 is_82 rfl)
                have c268 := w256
                exact w_vret gz_49_140 gm_49 (k1 h255 (gh255) (by omega) (by first | exact Lo_h255 | exact ⟨st.1, st.2.1, st.2.2.2.2⟩ | exact Or.inl ⟨by omega, zF, st.2.2.1, st.2.2.2.1⟩ | exact Or.inr (Or.inr (Or.inl ⟨by omega, by omega, zC, st.2.2.1, st.2.2.2.1⟩)) | exact Or.inr (Or.inr (Or.inr (Or.inl ⟨by omega, by omega, zW, st.2.2.2.1⟩))) | exact Or.inr (Or.inr (Or.inr (Or.inr (Or.inl ⟨by omega, by omega, zJ, fun _ => st.2.2.1, st.2.2.2.1⟩)))) | exact Or.inr (Or.inr (Or.inr (Or.inr (Or.inr (Or.inl ⟨by omega, by omega, zS, st.2.2.1, st.2.2.2.1⟩))))) | exact ⟨_, _, _, Or.inl ⟨by omega, zF, rfl, rfl⟩⟩ | exact ⟨_, _, _, Or.inr (Or.inr (Or.inl ⟨by omega, by omega, zC, rfl, rfl⟩))⟩ | exact ⟨_, _, _, Or.inr (Or.inr (Or.inr (Or.inl ⟨by omega, by omega, zW, rfl⟩)))⟩ | exact ⟨_, 0, _, Or.inr (Or.inr (Or.inr (Or.inr (Or.inl ⟨by omega, by omega, zJ, fun q => absurd q (by omega), rfl⟩))))⟩ | exact ⟨_, _, _, Or.inr (Or.inr (Or.inr (Or.inr (Or.inr (Or.inl ⟨by omega, by omega, zS, rfl, rfl⟩)))))⟩ | exact ⟨0, 0, 0, Or.inr (Or.inl ⟨by omega, by omega, by omega⟩)⟩ | exact ⟨0, 0, 0, Or.inr (Or.inr (Or.inr (Or.inr (Or.inr (Or.inr ⟨by omega, by omega, by omega, by omega, by omega, by omega⟩)))))⟩ | (exfalso; omega) | omega) (by first | exact Lo_h255 | exact ⟨st.1, st.2.1, st.2.2.2.2⟩ | exact Or.inl ⟨by omega, zF, st.2.2.1, st.2.2.2.1⟩ | exact Or.inr (Or.inr (Or.inl ⟨by omega, by omega, zC, st.2.2.1, st.2.2.2.1⟩)) | exact Or.inr (Or.inr (Or.inr (Or.inl ⟨by omega, by omega, zW, st.2.2.2.1⟩))) | exact Or.inr (Or.inr (Or.inr (Or.inr (Or.inl ⟨by omega, by omega, zJ, fun _ => st.2.2.1, st.2.2.2.1⟩)))) | exact Or.inr (Or.inr (Or.inr (Or.inr (Or.inr (Or.inl ⟨by omega, by omega, zS, st.2.2.1, st.2.2.2.1⟩))))) | exact ⟨_, _, _, Or.inl ⟨by omega, zF, rfl, rfl⟩⟩ | exact ⟨_, _, _, Or.inr (Or.inr (Or.inl ⟨by omega, by omega, zC, rfl, rfl⟩))⟩ | exact ⟨_, _, _, Or.inr (Or.inr (Or.inr (Or.inl ⟨by omega, by omega, zW, rfl⟩)))⟩ | exact ⟨_, 0, _, Or.inr (Or.inr (Or.inr (Or.inr (Or.inl ⟨by omega, by omega, zJ, fun q => absurd q (by omega), rfl⟩))))⟩ | exact ⟨_, _, _, Or.inr (Or.inr (Or.inr (Or.inr (Or.inr (Or.inl ⟨by omega, by omega, zS, rfl, rfl⟩)))))⟩ | exact ⟨0, 0, 0, Or.inr (Or.inl ⟨by omega, by omega, by omega⟩)⟩ | exact ⟨0, 0, 0, Or.inr (Or.inr (Or.inr (Or.inr (Or.inr (Or.inr ⟨by omega, by omega, by omega, by omega, by omega, by omega⟩)))))⟩ | (exfalso; omega) | omega) (by first | exact Lo_h255 | exact ⟨st.1, st.2.1, st.2.2.2.2⟩ | exact Or.inl ⟨by omega, zF, st.2.2.1, st.2.2.2.1⟩ | exact Or.inr (Or.inr (Or.inl ⟨by omega, by omega, zC, st.2.2.1, st.2.2.2.1⟩)) | exact Or.inr (Or.inr (Or.inr (Or.inl ⟨by omega, by omega, zW, st.2.2.2.1⟩))) | exact Or.inr (Or.inr (Or.inr (Or.inr (Or.inl ⟨by omega, by omega, zJ, fun _ => st.2.2.1, st.2.2.2.1⟩)))) | exact Or.inr (Or.inr (Or.inr (Or.inr (Or.inr (Or.inl ⟨by omega, by omega, zS, st.2.2.1, st.2.2.2.1⟩))))) | exact ⟨_, _, _, Or.inl ⟨by omega, zF, rfl, rfl⟩⟩ | exact ⟨_, _, _, Or.inr (Or.inr (Or.inl ⟨by omega, by omega, zC, rfl, rfl⟩))⟩ | exact ⟨_, _, _, Or.inr (Or.inr (Or.inr (Or.inl ⟨by omega, by omega, zW, rfl⟩)))⟩ | exact ⟨_, 0, _, Or.inr (Or.inr (Or.inr (Or.inr (Or.inl ⟨by omega, by omega, zJ, fun q => absurd q (by omega), rfl⟩))))⟩ | exact ⟨_, _, _, Or.inr (Or.inr (Or.inr (Or.inr (Or.inr (Or.inl ⟨by omega, by omega, zS, rfl, rfl⟩)))))⟩ | exact ⟨0, 0, 0, Or.inr (Or.inl ⟨by omega, by omega, by omega⟩)⟩ | exact ⟨0, 0, 0, Or.inr (Or.inr (Or.inr (Or.inr (Or.inr (Or.inr ⟨by omega, by omega, by omega, by omega, by omega, by omega⟩)))))⟩ | (exfalso; omega) | omega) Ln_h255t259 Sp_h255t260 Al_h255t261 Cu_h255t262)
            ·
              refine w_aload_n gz_49_81 rfl ?_
              refine w_iconst gz_49_82 (by decide) ?_
              refine w_inv (k := 0) (as := [(0, 5)]) (r := []) (x := 82) (ls0 := [(2, 82), (0, 5)]) gz_49_83 gm_42 rfl is_82 rd_5 rfl rfl rfl rfl rfl ?_
              refine w_aload_n gz_42_0 rfl ?_
              refine v_getI (j := 9) gz_42_1 rfl is_82 rd_5 rfl (fun v269 ev269 pv269 qv269 => ?_)
              have zv269 := ev269.trans cf
              refine w_ifne (t := 20) gz_42_4 rfl (fun u270 => by exfalso; omega) (fun u270 => ?_)
              refine w_aload_n gz_42_7 rfl ?_
              refine w_iload_n gz_42_8 rfl ?_
              refine w_bipush gz_42_9 (by decide) ?_
              refine w_aload_n gz_42_11 rfl ?_
              refine v_getI (j := 7) gz_42_12 rfl is_82 rd_5 rfl (fun v271 ev271 pv271 qv271 => ?_)
              refine w_imul gz_42_15 ⟨by omega, by omega⟩ ?_
              refine w_iadd gz_42_16 ⟨by omega, by omega⟩ ?_
              refine v_putI (j := 9) gz_42_17 rfl is_82 rd_5 rfl (by omega) (by omega) rfl (fun h272 fh272 => ?_)
              have gh272 : my_fr [(4, 4), (4, 5), (4, 6), (4, 7), (4, 8), (4, 9), (5, 5), (5, 6), (5, 7), (5, 8), (5, 9), (32, -1), (33, -1), (34, -1), (35, -1), (36, -1), (37, -1), (38, -1), (39, -1)] h h272 := my_fr.up my_fr.rf is_82 fh272 rfl
              have Ln_h272 : Ln h272 := Ln_ag (my_ag.up fh272 is_82 rfl) n_Ln
              have Sp_h272 : Sp h272 wv := Sp_ag (my_ag.up fh272 is_82 rfl) hwv n_Ln n_Sp
              have Al_h272 : Al h272 := Al_ag (my_ag.up fh272 is_82 rfl) n_Al
              have Cu_h272 : Cu h272 := Cu_ag (my_ag.up fh272 is_82 rfl) n_Cu
              have Lo_h272 : Lo h h272 := Lo_ag (my_ag.up fh272 is_82 rfl) n_Ln (Lo_rf)
              refine w_vret gz_42_20 gm_42 ?_
              show wp l rho (d + 7) 49 86 [(2, 82), (0, 0), (0, 1), (0, 0), (0, 0), (0, 0)] [] h272 Q
              have psR : h272 82 7 = h 82 7 := ((my_up_fld fh272 (by decide)).trans (rfl : h 82 7 = h 82 7))
              have npsR : cs h272 = cs h := cs_eq (fun j => my_fr.at gh272 is_92 rfl) (my_fr.at gh272 is_82 rfl)
              have c273 := (my_up_self fh272)
              exact w_vret gz_49_86 gm_49 (k0 h272 (gh272) (by omega) (by omega) (by first | exact Lo_h272 | exact ⟨st.1, st.2.1, st.2.2.2.2⟩ | exact Or.inl ⟨by omega, zF, st.2.2.1, st.2.2.2.1⟩ | exact Or.inr (Or.inr (Or.inl ⟨by omega, by omega, zC, st.2.2.1, st.2.2.2.1⟩)) | exact Or.inr (Or.inr (Or.inr (Or.inl ⟨by omega, by omega, zW, st.2.2.2.1⟩))) | exact Or.inr (Or.inr (Or.inr (Or.inr (Or.inl ⟨by omega, by omega, zJ, fun _ => st.2.2.1, st.2.2.2.1⟩)))) | exact Or.inr (Or.inr (Or.inr (Or.inr (Or.inr (Or.inl ⟨by omega, by omega, zS, st.2.2.1, st.2.2.2.1⟩))))) | exact ⟨_, _, _, Or.inl ⟨by omega, zF, rfl, rfl⟩⟩ | exact ⟨_, _, _, Or.inr (Or.inr (Or.inl ⟨by omega, by omega, zC, rfl, rfl⟩))⟩ | exact ⟨_, _, _, Or.inr (Or.inr (Or.inr (Or.inl ⟨by omega, by omega, zW, rfl⟩)))⟩ | exact ⟨_, 0, _, Or.inr (Or.inr (Or.inr (Or.inr (Or.inl ⟨by omega, by omega, zJ, fun q => absurd q (by omega), rfl⟩))))⟩ | exact ⟨_, _, _, Or.inr (Or.inr (Or.inr (Or.inr (Or.inr (Or.inl ⟨by omega, by omega, zS, rfl, rfl⟩)))))⟩ | exact ⟨0, 0, 0, Or.inr (Or.inl ⟨by omega, by omega, by omega⟩)⟩ | exact ⟨0, 0, 0, Or.inr (Or.inr (Or.inr (Or.inr (Or.inr (Or.inr ⟨by omega, by omega, by omega, by omega, by omega, by omega⟩)))))⟩ | (exfalso; omega) | omega) (by first | exact Lo_h272 | exact ⟨st.1, st.2.1, st.2.2.2.2⟩ | exact Or.inl ⟨by omega, zF, st.2.2.1, st.2.2.2.1⟩ | exact Or.inr (Or.inr (Or.inl ⟨by omega, by omega, zC, st.2.2.1, st.2.2.2.1⟩)) | exact Or.inr (Or.inr (Or.inr (Or.inl ⟨by omega, by omega, zW, st.2.2.2.1⟩))) | exact Or.inr (Or.inr (Or.inr (Or.inr (Or.inl ⟨by omega, by omega, zJ, fun _ => st.2.2.1, st.2.2.2.1⟩)))) | exact Or.inr (Or.inr (Or.inr (Or.inr (Or.inr (Or.inl ⟨by omega, by omega, zS, st.2.2.1, st.2.2.2.1⟩))))) | exact ⟨_, _, _, Or.inl ⟨by omega, zF, rfl, rfl⟩⟩ | exact ⟨_, _, _, Or.inr (Or.inr (Or.inl ⟨by omega, by omega, zC, rfl, rfl⟩))⟩ | exact ⟨_, _, _, Or.inr (Or.inr (Or.inr (Or.inl ⟨by omega, by omega, zW, rfl⟩)))⟩ | exact ⟨_, 0, _, Or.inr (Or.inr (Or.inr (Or.inr (Or.inl ⟨by omega, by omega, zJ, fun q => absurd q (by omega), rfl⟩))))⟩ | exact ⟨_, _, _, Or.inr (Or.inr (Or.inr (Or.inr (Or.inr (Or.inl ⟨by omega, by omega, zS, rfl, rfl⟩)))))⟩ | exact ⟨0, 0, 0, Or.inr (Or.inl ⟨by omega, by omega, by omega⟩)⟩ | exact ⟨0, 0, 0, Or.inr (Or.inr (Or.inr (Or.inr (Or.inr (Or.inr ⟨by omega, by omega, by omega, by omega, by omega, by omega⟩)))))⟩ | (exfalso; omega) | omega) Ln_h272 Sp_h272 Al_h272 Cu_h272)
          ·
            show wp l rho (d + 7) 49 35 [(2, 82), (0, 0), (0, 1), (0, 0), (0, 0), (9, 0)] [(0, 1)] h Q
            rw [show wc ((8 : Nat) : Int) = 26801 from by decide] at xp227
            exfalso; omega
        ·
          show wp l rho (d + 7) 49 27 [(2, 82), (0, 0), (0, 1), (0, 0), (9, 0), (9, 0)] [(0, 1)] h Q
          rw [show wc ((7 : Nat) : Int) = 527412 from by decide] at xp222
          exfalso; omega
      ·
        show wp l rho (d + 7) 49 20 [(2, 82), (0, 0), (0, 1), (9, 0), (9, 0), (9, 0)] [(0, 1)] h Q
        rw [show wc ((6 : Nat) : Int) = 8422 from by decide] at xp217
        exfalso; omega
  ·
    show wp l rho (d + 7) 49 6 [(2, 82), (9, 0), (9, 0), (9, 0), (9, 0), (9, 0)] [(0, 1)] h Q
    rw [show wc ((4 : Nat) : Int) = 316695 from by decide] at xp6
    refine w_istore_n (ls' := [(2, 82), (0, 1), (9, 0), (9, 0), (9, 0), (9, 0)]) gz_49_6 gm_49 rfl rfl rfl ?_
    refine w_aload_n gz_49_7 rfl ?_
    refine w_ldcS gz_49_8 (by decide) ?_
    refine w_inv (k := 1) (as := [(3, ((5 : Nat) : Int))]) (r := []) (x := 82) (ls0 := [(2, 82), (3, ((5 : Nat) : Int)), (9, 0)]) gz_49_10 gm_41 rfl is_82 rd_5 rfl rfl rfl rfl rfl (c_Reader_isWord9_f0 (d := (d + 2)) (x1 := ((5 : Nat) : Int)) (by decide) (cf.trans (by omega)) n_Cu (fun w274 xp275 => ?_) (fun w276 w277 xp278 => ?_))
    ·
      show wp l rho (d + 7) 49 13 [(2, 82), (0, 1), (9, 0), (9, 0), (9, 0), (9, 0)] [(0, 0)] h Q
      rw [show wc ((5 : Nat) : Int) = 4904 from by decide] at xp275
      refine w_istore_n (ls' := [(2, 82), (0, 1), (0, 0), (9, 0), (9, 0), (9, 0)]) gz_49_13 gm_49 rfl rfl rfl ?_
      refine w_aload_n gz_49_14 rfl ?_
      refine w_ldcS gz_49_15 (by decide) ?_
      refine w_inv (k := 1) (as := [(3, ((6 : Nat) : Int))]) (r := []) (x := 82) (ls0 := [(2, 82), (3, ((6 : Nat) : Int)), (9, 0)]) gz_49_17 gm_41 rfl is_82 rd_5 rfl rfl rfl rfl rfl (c_Reader_isWord9_f0 (d := (d + 2)) (x1 := ((6 : Nat) : Int)) (by decide) (cf.trans (by omega)) n_Cu (fun w279 xp280 => ?_) (fun w281 w282 xp283 => ?_))
      ·
        show wp l rho (d + 7) 49 20 [(2, 82), (0, 1), (0, 0), (9, 0), (9, 0), (9, 0)] [(0, 0)] h Q
        rw [show wc ((6 : Nat) : Int) = 8422 from by decide] at xp280
        refine w_istore_n (ls' := [(2, 82), (0, 1), (0, 0), (0, 0), (9, 0), (9, 0)]) gz_49_20 gm_49 rfl rfl rfl ?_
        refine w_aload_n gz_49_21 rfl ?_
        refine w_ldcS gz_49_22 (by decide) ?_
        refine w_inv (k := 1) (as := [(3, ((7 : Nat) : Int))]) (r := []) (x := 82) (ls0 := [(2, 82), (3, ((7 : Nat) : Int)), (9, 0)]) gz_49_24 gm_41 rfl is_82 rd_5 rfl rfl rfl rfl rfl (c_Reader_isWord9_f0 (d := (d + 2)) (x1 := ((7 : Nat) : Int)) (by decide) (cf.trans (by omega)) n_Cu (fun w284 xp285 => ?_) (fun w286 w287 xp288 => ?_))
        ·
          show wp l rho (d + 7) 49 27 [(2, 82), (0, 1), (0, 0), (0, 0), (9, 0), (9, 0)] [(0, 0)] h Q
          rw [show wc ((7 : Nat) : Int) = 527412 from by decide] at xp285
          refine w_istore (ls' := [(2, 82), (0, 1), (0, 0), (0, 0), (0, 0), (9, 0)]) gz_49_27 gm_49 rfl rfl rfl ?_
          refine w_aload_n gz_49_29 rfl ?_
          refine w_ldcS gz_49_30 (by decide) ?_
          refine w_inv (k := 1) (as := [(3, ((8 : Nat) : Int))]) (r := []) (x := 82) (ls0 := [(2, 82), (3, ((8 : Nat) : Int)), (9, 0)]) gz_49_32 gm_41 rfl is_82 rd_5 rfl rfl rfl rfl rfl (c_Reader_isWord9_f0 (d := (d + 2)) (x1 := ((8 : Nat) : Int)) (by decide) (cf.trans (by omega)) n_Cu (fun w289 xp290 => ?_) (fun w291 w292 xp293 => ?_))
          ·
            show wp l rho (d + 7) 49 35 [(2, 82), (0, 1), (0, 0), (0, 0), (0, 0), (9, 0)] [(0, 0)] h Q
            rw [show wc ((8 : Nat) : Int) = 26801 from by decide] at xp290
            refine w_istore (ls' := [(2, 82), (0, 1), (0, 0), (0, 0), (0, 0), (0, 0)]) gz_49_35 gm_49 rfl rfl rfl ?_
            refine w_iload_n gz_49_37 rfl ?_
            refine w_ifne (t := 65) gz_49_38 rfl (fun u294 => ?_) (fun u294 => by exfalso; omega)
            refine w_iload_n gz_49_65 rfl ?_
            refine w_ifne (t := 87) gz_49_66 rfl (fun u295 => ?_) (fun u295 => by exfalso; omega)
            refine w_aload_n gz_49_87 rfl ?_
            refine w_inv (k := 2) (as := []) (r := []) (x := 82) (ls0 := [(2, 82), (9, 0), (9, 0)]) gz_49_88 gm_37 rfl is_82 rd_5 rfl rfl rfl rfl rfl (c_Reader_nextToken9_f0 (d := (d + 5))  (cf.trans (by omega)) n_Al (fun h296 frh296 w297 w298 w299 xp300 xp301 Al_h296t302 Cu_h296t303 => ?_))
            have gh296 : my_fr [(4, 4), (4, 5), (4, 6), (4, 7), (4, 8), (4, 9), (5, 5), (5, 6), (5, 7), (5, 8), (5, 9), (32, -1), (33, -1), (34, -1), (35, -1), (36, -1), (37, -1), (38, -1), (39, -1)] h h296 := my_fr.tr my_fr.rf (frh296.mo rfl)
            have Ln_h296 : Ln h296 := Ln_ag (my_ag.fr frh296 rfl) n_Ln
            have Sp_h296 : Sp h296 wv := Sp_ag (my_ag.fr frh296 rfl) hwv n_Ln n_Sp
            have Lo_h296 : Lo h h296 := Lo_ag (my_ag.fr frh296 rfl) n_Ln (Lo_rf)
            show wp l rho (d + 7) 49 91 [(2, 82), (0, 1), (0, 0), (0, 0), (0, 0), (0, 0)] [] h296 Q
            have xc304 := xp300 n_Cu
            have ck305 := Cu_s Cu_h296t303
            rw [show cs h296 = cs h from cs_eq (fun j => my_fr.at gh296 is_92 rfl) (my_fr.at gh296 is_82 rfl)] at ck305
            rw [show h296 82 7 = (sN (cs h) (h 82 7)) from xc304] at ck305
            refine w_iload_n gz_49_91 rfl ?_
            refine w_ifeq (t := 102) gz_49_92 rfl (fun u306 => by exfalso; omega) (fun u306 => ?_)
            refine w_aload_n gz_49_95 rfl ?_
            refine w_inv (k := 2) (as := []) (r := []) (x := 82) (ls0 := [(2, 82), (9, 0), (9, 0)]) gz_49_96 gm_50 rfl is_82 rd_5 rfl rfl rfl rfl rfl (c_Reader_readFill9_f0 (d := (d + 3))  (((my_fr.at frh296 is_82 rfl).trans cf).trans (by omega)) Al_h296t302 Cu_h296t303 (fun h307 frh307 w308 w309 xp310 Al_h307t311 Cu_h307t312 => ?_) (fun h313 frh313 w314 xp315 Al_h313t316 Cu_h313t317 => ?_))
            ·
              have gh307 : my_fr [(4, 4), (4, 5), (4, 6), (4, 7), (4, 8), (4, 9), (5, 5), (5, 6), (5, 7), (5, 8), (5, 9), (32, -1), (33, -1), (34, -1), (35, -1), (36, -1), (37, -1), (38, -1), (39, -1)] h h307 := my_fr.tr gh296 (frh307.mo rfl)
              have Ln_h307 : Ln h307 := Ln_ag (my_ag.fr frh307 rfl) Ln_h296
              have Sp_h307 : Sp h307 wv := Sp_ag (my_ag.fr frh307 rfl) hwv Ln_h296 Sp_h296
              have Lo_h307 : Lo h h307 := Lo_ag (my_ag.fr frh307 rfl) Ln_h296 Lo_h296
              show wp l rho (d + 7) 49 99 [(2, 82), (0, 1), (0, 0), (0, 0), (0, 0), (0, 0)] [] h307 Q
              have tE318 : cs h296 = cs h := cs_eq (fun j => my_fr.at gh296 is_92 rfl) (my_fr.at gh296 is_82 rfl)
              rw [tE318] at xp310
              have ps319 : h296 82 7 = (sN (cs h) (h 82 7)) := xc304
              rw [ps319] at xp310
              have q2 : h296 82 2 = h 82 2 := my_fr.at frh296 is_82 rfl
              have q11 : h296 (h 82 2) 1 = h (h 82 2) 1 := my_fr.at frh296 n_Ln.2.2.2.1 rfl
              have q13 : h296 (h 82 2) 3 = h (h 82 2) 3 := my_fr.at frh296 n_Ln.2.2.2.1 rfl
              have q14 : h296 (h 82 2) 4 = h (h 82 2) 4 := my_fr.at frh296 n_Ln.2.2.2.1 rfl
              have q19 : h296 (h 82 2) 9 = h (h 82 2) 9 := my_fr.at frh296 n_Ln.2.2.2.1 rfl
              have qc : h296 2 = h 2 := funext (fun j => my_fr.at frh296 is_2 rfl)
              have zF := xp310
              simp only [q2, q11, q13, q14, q19, qc] at zF
              have st : h307 82 2 = h 82 2 ∧ h307 (h 82 2) 3 = h (h 82 2) 3 ∧ h307 (h 82 2) 4 = h (h 82 2) 4 ∧ h307 (h 82 2) 9 = h (h 82 2) 9 ∧ h307 (h 82 2) 1 = h (h 82 2) 1 := ⟨(my_fr.at frh307 is_82 rfl).trans q2, (my_fr.at frh307 n_Ln.2.2.2.1 rfl).trans q13, (my_fr.at frh307 n_Ln.2.2.2.1 rfl).trans q14, (my_fr.at frh307 n_Ln.2.2.2.1 rfl).trans q19, (my_fr.at frh307 n_Ln.2.2.2.1 rfl).trans q11⟩
              refine w_goto (t := 140) gz_49_99 rfl ?_
              have psR : h307 82 7 = h307 82 7 := (rfl : h307 82 7 = h307 82 7)
              have npsR : cs h307 = cs h := cs_eq (fun j => my_fr.at gh307 is_92 rfl) (my_fr.at gh307 is_82 rfl)
              have c320 := (rfl : h307 82 9 = h307 82 9)
              exact w_vret gz_49_140 gm_49 (k0 h307 (gh307) (by omega) (by omega) (by first | exact Lo_h307 | exact ⟨st.1, st.2.1, st.2.2.2.2⟩ | exact Or.inl ⟨by omega, zF, st.2.2.1, st.2.2.2.1⟩ | exact Or.inr (Or.inr (Or.inl ⟨by omega, by omega, zC, st.2.2.1, st.2.2.2.1⟩)) | exact Or.inr (Or.inr (Or.inr (Or.inl ⟨by omega, by omega, zW, st.2.2.2.1⟩))) | exact Or.inr (Or.inr (Or.inr (Or.inr (Or.inl ⟨by omega, by omega, zJ, fun _ => st.2.2.1, st.2.2.2.1⟩)))) | exact Or.inr (Or.inr (Or.inr (Or.inr (Or.inr (Or.inl ⟨by omega, by omega, zS, st.2.2.1, st.2.2.2.1⟩))))) | exact ⟨_, _, _, Or.inl ⟨by omega, zF, rfl, rfl⟩⟩ | exact ⟨_, _, _, Or.inr (Or.inr (Or.inl ⟨by omega, by omega, zC, rfl, rfl⟩))⟩ | exact ⟨_, _, _, Or.inr (Or.inr (Or.inr (Or.inl ⟨by omega, by omega, zW, rfl⟩)))⟩ | exact ⟨_, 0, _, Or.inr (Or.inr (Or.inr (Or.inr (Or.inl ⟨by omega, by omega, zJ, fun q => absurd q (by omega), rfl⟩))))⟩ | exact ⟨_, _, _, Or.inr (Or.inr (Or.inr (Or.inr (Or.inr (Or.inl ⟨by omega, by omega, zS, rfl, rfl⟩)))))⟩ | exact ⟨0, 0, 0, Or.inr (Or.inl ⟨by omega, by omega, by omega⟩)⟩ | exact ⟨0, 0, 0, Or.inr (Or.inr (Or.inr (Or.inr (Or.inr (Or.inr ⟨by omega, by omega, by omega, by omega, by omega, by omega⟩)))))⟩ | (exfalso; omega) | omega) (by first | exact Lo_h307 | exact ⟨st.1, st.2.1, st.2.2.2.2⟩ | exact Or.inl ⟨by omega, zF, st.2.2.1, st.2.2.2.1⟩ | exact Or.inr (Or.inr (Or.inl ⟨by omega, by omega, zC, st.2.2.1, st.2.2.2.1⟩)) | exact Or.inr (Or.inr (Or.inr (Or.inl ⟨by omega, by omega, zW, st.2.2.2.1⟩))) | exact Or.inr (Or.inr (Or.inr (Or.inr (Or.inl ⟨by omega, by omega, zJ, fun _ => st.2.2.1, st.2.2.2.1⟩)))) | exact Or.inr (Or.inr (Or.inr (Or.inr (Or.inr (Or.inl ⟨by omega, by omega, zS, st.2.2.1, st.2.2.2.1⟩))))) | exact ⟨_, _, _, Or.inl ⟨by omega, zF, rfl, rfl⟩⟩ | exact ⟨_, _, _, Or.inr (Or.inr (Or.inl ⟨by omega, by omega, zC, rfl, rfl⟩))⟩ | exact ⟨_, _, _, Or.inr (Or.inr (Or.inr (Or.inl ⟨by omega, by omega, zW, rfl⟩)))⟩ | exact ⟨_, 0, _, Or.inr (Or.inr (Or.inr (Or.inr (Or.inl ⟨by omega, by omega, zJ, fun q => absurd q (by omega), rfl⟩))))⟩ | exact ⟨_, _, _, Or.inr (Or.inr (Or.inr (Or.inr (Or.inr (Or.inl ⟨by omega, by omega, zS, rfl, rfl⟩)))))⟩ | exact ⟨0, 0, 0, Or.inr (Or.inl ⟨by omega, by omega, by omega⟩)⟩ | exact ⟨0, 0, 0, Or.inr (Or.inr (Or.inr (Or.inr (Or.inr (Or.inr ⟨by omega, by omega, by omega, by omega, by omega, by omega⟩)))))⟩ | (exfalso; omega) | omega) Ln_h307 Sp_h307 Al_h307t311 Cu_h307t312)
            ·
              have gh313 : my_fr [(4, 4), (4, 5), (4, 6), (4, 7), (4, 8), (4, 9), (5, 5), (5, 6), (5, 7), (5, 8), (5, 9), (32, -1), (33, -1), (34, -1), (35, -1), (36, -1), (37, -1), (38, -1), (39, -1)] h h313 := my_fr.tr gh296 (frh313.mo rfl)
              have Ln_h313 : Ln h313 := Ln_ag (my_ag.fr frh313 rfl) Ln_h296
              have Sp_h313 : Sp h313 wv := Sp_ag (my_ag.fr frh313 rfl) hwv Ln_h296 Sp_h296
              have Lo_h313 : Lo h h313 := Lo_ag (my_ag.fr frh313 rfl) Ln_h296 Lo_h296
              show wp l rho (d + 7) 49 99 [(2, 82), (0, 1), (0, 0), (0, 0), (0, 0), (0, 0)] [] h313 Q
              have tE321 : cs h296 = cs h := cs_eq (fun j => my_fr.at gh296 is_92 rfl) (my_fr.at gh296 is_82 rfl)
              rw [tE321] at xp315
              have ps322 : h296 82 7 = (sN (cs h) (h 82 7)) := xc304
              rw [ps322] at xp315
              have q2 : h296 82 2 = h 82 2 := my_fr.at frh296 is_82 rfl
              have q11 : h296 (h 82 2) 1 = h (h 82 2) 1 := my_fr.at frh296 n_Ln.2.2.2.1 rfl
              have q13 : h296 (h 82 2) 3 = h (h 82 2) 3 := my_fr.at frh296 n_Ln.2.2.2.1 rfl
              have q14 : h296 (h 82 2) 4 = h (h 82 2) 4 := my_fr.at frh296 n_Ln.2.2.2.1 rfl
              have q19 : h296 (h 82 2) 9 = h (h 82 2) 9 := my_fr.at frh296 n_Ln.2.2.2.1 rfl
              have qc : h296 2 = h 2 := funext (fun j => my_fr.at frh296 is_2 rfl)
              have zF := xp315
              simp only [q2, q11, q13, q14, q19, qc] at zF
              have st : h313 82 2 = h 82 2 ∧ h313 (h 82 2) 3 = h (h 82 2) 3 ∧ h313 (h 82 2) 4 = h (h 82 2) 4 ∧ h313 (h 82 2) 9 = h (h 82 2) 9 ∧ h313 (h 82 2) 1 = h (h 82 2) 1 := ⟨(my_fr.at frh313 is_82 rfl).trans q2, (my_fr.at frh313 n_Ln.2.2.2.1 rfl).trans q13, (my_fr.at frh313 n_Ln.2.2.2.1 rfl).trans q14, (my_fr.at frh313 n_Ln.2.2.2.1 rfl).trans q19, (my_fr.at frh313 n_Ln.2.2.2.1 rfl).trans q11⟩
              refine w_goto (t := 140) gz_49_99 rfl ?_
              have psR : h313 82 7 = h313 82 7 := (rfl : h313 82 7 = h313 82 7)
              have npsR : cs h313 = cs h := cs_eq (fun j => my_fr.at gh313 is_92 rfl) (my_fr.at gh313 is_82 rfl)
              have c323 := w314
              exact w_vret gz_49_140 gm_49 (k1 h313 (gh313) (by omega) (by first | exact Lo_h313 | exact ⟨st.1, st.2.1, st.2.2.2.2⟩ | exact Or.inl ⟨by omega, zF, st.2.2.1, st.2.2.2.1⟩ | exact Or.inr (Or.inr (Or.inl ⟨by omega, by omega, zC, st.2.2.1, st.2.2.2.1⟩)) | exact Or.inr (Or.inr (Or.inr (Or.inl ⟨by omega, by omega, zW, st.2.2.2.1⟩))) | exact Or.inr (Or.inr (Or.inr (Or.inr (Or.inl ⟨by omega, by omega, zJ, fun _ => st.2.2.1, st.2.2.2.1⟩)))) | exact Or.inr (Or.inr (Or.inr (Or.inr (Or.inr (Or.inl ⟨by omega, by omega, zS, st.2.2.1, st.2.2.2.1⟩))))) | exact ⟨_, _, _, Or.inl ⟨by omega, zF, rfl, rfl⟩⟩ | exact ⟨_, _, _, Or.inr (Or.inr (Or.inl ⟨by omega, by omega, zC, rfl, rfl⟩))⟩ | exact ⟨_, _, _, Or.inr (Or.inr (Or.inr (Or.inl ⟨by omega, by omega, zW, rfl⟩)))⟩ | exact ⟨_, 0, _, Or.inr (Or.inr (Or.inr (Or.inr (Or.inl ⟨by omega, by omega, zJ, fun q => absurd q (by omega), rfl⟩))))⟩ | exact ⟨_, _, _, Or.inr (Or.inr (Or.inr (Or.inr (Or.inr (Or.inl ⟨by omega, by omega, zS, rfl, rfl⟩)))))⟩ | exact ⟨0, 0, 0, Or.inr (Or.inl ⟨by omega, by omega, by omega⟩)⟩ | exact ⟨0, 0, 0, Or.inr (Or.inr (Or.inr (Or.inr (Or.inr (Or.inr ⟨by omega, by omega, by omega, by omega, by omega, by omega⟩)))))⟩ | (exfalso; omega) | omega) (by first | exact Lo_h313 | exact ⟨st.1, st.2.1, st.2.2.2.2⟩ | exact Or.inl ⟨by omega, zF, st.2.2.1, st.2.2.2.1⟩ | exact Or.inr (Or.inr (Or.inl ⟨by omega, by omega, zC, st.2.2.1, st.2.2.2.1⟩)) | exact Or.inr (Or.inr (Or.inr (Or.inl ⟨by omega, by omega, zW, st.2.2.2.1⟩))) | exact Or.inr (Or.inr (Or.inr (Or.inr (Or.inl ⟨by omega, by omega, zJ, fun _ => st.2.2.1, st.2.2.2.1⟩)))) | exact Or.inr (Or.inr (Or.inr (Or.inr (Or.inr (Or.inl ⟨by omega, by omega, zS, st.2.2.1, st.2.2.2.1⟩))))) | exact ⟨_, _, _, Or.inl ⟨by omega, zF, rfl, rfl⟩⟩ | exact ⟨_, _, _, Or.inr (Or.inr (Or.inl ⟨by omega, by omega, zC, rfl, rfl⟩))⟩ | exact ⟨_, _, _, Or.inr (Or.inr (Or.inr (Or.inl ⟨by omega, by omega, zW, rfl⟩)))⟩ | exact ⟨_, 0, _, Or.inr (Or.inr (Or.inr (Or.inr (Or.inl ⟨by omega, by omega, zJ, fun q => absurd q (by omega), rfl⟩))))⟩ | exact ⟨_, _, _, Or.inr (Or.inr (Or.inr (Or.inr (Or.inr (Or.inl ⟨by omega, by omega, zS, rfl, rfl⟩)))))⟩ | exact ⟨0, 0, 0, Or.inr (Or.inl ⟨by omega, by omega, by omega⟩)⟩ | exact ⟨0, 0, 0, Or.inr (Or.inr (Or.inr (Or.inr (Or.inr (Or.inr ⟨by omega, by omega, by omega, by omega, by omega, by omega⟩)))))⟩ | (exfalso; omega) | omega) (by first | exact Lo_h313 | exact ⟨st.1, st.2.1, st.2.2.2.2⟩ | exact Or.inl ⟨by omega, zF, st.2.2.1, st.2.2.2.1⟩ | exact Or.inr (Or.inr (Or.inl ⟨by omega, by omega, zC, st.2.2.1, st.2.2.2.1⟩)) | exact Or.inr (Or.inr (Or.inr (Or.inl ⟨by omega, by omega, zW, st.2.2.2.1⟩))) | exact Or.inr (Or.inr (Or.inr (Or.inr (Or.inl ⟨by omega, by omega, zJ, fun _ => st.2.2.1, st.2.2.2.1⟩)))) | exact Or.inr (Or.inr (Or.inr (Or.inr (Or.inr (Or.inl ⟨by omega, by omega, zS, st.2.2.1, st.2.2.2.1⟩))))) | exact ⟨_, _, _, Or.inl ⟨by omega, zF, rfl, rfl⟩⟩ | exact ⟨_, _, _, Or.inr (Or.inr (Or.inl ⟨by omega, by omega, zC, rfl, rfl⟩))⟩ | exact ⟨_, _, _, Or.inr (Or.inr (Or.inr (Or.inl ⟨by omega, by omega, zW, rfl⟩)))⟩ | exact ⟨_, 0, _, Or.inr (Or.inr (Or.inr (Or.inr (Or.inl ⟨by omega, by omega, zJ, fun q => absurd q (by omega), rfl⟩))))⟩ | exact ⟨_, _, _, Or.inr (Or.inr (Or.inr (Or.inr (Or.inr (Or.inl ⟨by omega, by omega, zS, rfl, rfl⟩)))))⟩ | exact ⟨0, 0, 0, Or.inr (Or.inl ⟨by omega, by omega, by omega⟩)⟩ | exact ⟨0, 0, 0, Or.inr (Or.inr (Or.inr (Or.inr (Or.inr (Or.inr ⟨by omega, by omega, by omega, by omega, by omega, by omega⟩)))))⟩ | (exfalso; omega) | omega) Ln_h313 Sp_h313 Al_h313t316 Cu_h313t317)
          ·
            show wp l rho (d + 7) 49 35 [(2, 82), (0, 1), (0, 0), (0, 0), (0, 0), (9, 0)] [(0, 1)] h Q
            rw [show wc ((8 : Nat) : Int) = 26801 from by decide] at xp293
            exfalso; omega
        ·
          show wp l rho (d + 7) 49 27 [(2, 82), (0, 1), (0, 0), (0, 0), (9, 0), (9, 0)] [(0, 1)] h Q
          rw [show wc ((7 : Nat) : Int) = 527412 from by decide] at xp288
          exfalso; omega
      ·
        show wp l rho (d + 7) 49 20 [(2, 82), (0, 1), (0, 0), (9, 0), (9, 0), (9, 0)] [(0, 1)] h Q
        rw [show wc ((6 : Nat) : Int) = 8422 from by decide] at xp283
        exfalso; omega
    ·
      show wp l rho (d + 7) 49 13 [(2, 82), (0, 1), (9, 0), (9, 0), (9, 0), (9, 0)] [(0, 1)] h Q
      rw [show wc ((5 : Nat) : Int) = 4904 from by decide] at xp278
      exfalso; omega
end MYNReader_readPane9_f0
