/-! contracts, printed by wip/gen/gy.py -/
section MYNReader_readPane7_f0
set_option maxHeartbeats 8000000 in
theorem c_Reader_readPane7_f0 {l : Launch} {rho : Nat → Int32} {d : Nat} {h : my_H} {Q : my_H → my_V → Prop} {wv : Int} (cf : h 82 9 = 0) (hwv : wv ≤ 5) (hwv0 : 0 ≤ wv) (n_Ln : Ln h) (n_Sp : Sp h wv) (n_Al : Al h) (n_Cu : Cu h) (k0 : ∀ (h' : my_H), my_fr [(4, 4), (4, 5), (4, 6), (4, 7), (4, 8), (4, 9), (5, 5), (5, 6), (5, 7), (5, 8), (5, 9), (32, -1), (33, -1), (34, -1), (35, -1), (36, -1), (37, -1), (38, -1), (39, -1)] h h' → 1 ≤ h' 82 9 → h' 82 9 ≤ 16005 → (∃ y c s : Int, paneR (cs h) (h 2) (h (h 82 2) 3) (h 82 7) (h (h 82 2) 4) (h (h 82 2) 9) (h' 82 9) y c s) → Lo h h' → LoZ h h' → Ln h' → Sp h' wv → Al h' → Cu h' → Q h' (9, 0)) (k1 : ∀ (h' : my_H), my_fr [(4, 4), (4, 5), (4, 6), (4, 7), (4, 8), (4, 9), (5, 5), (5, 6), (5, 7), (5, 8), (5, 9), (32, -1), (33, -1), (34, -1), (35, -1), (36, -1), (37, -1), (38, -1), (39, -1)] h h' → h' 82 9 = 0 → paneR (cs h) (h 2) (h (h 82 2) 3) (h 82 7) (h (h 82 2) 4) (h (h 82 2) 9) (h' 82 9) (h' 82 7) (h' (h 82 2) 4) (h' (h 82 2) 9) → h' 82 2 = h 82 2 ∧ h' (h 82 2) 3 = h (h 82 2) 3 ∧ h' (h 82 2) 1 = h (h 82 2) 1 → Lo h h' → PnQ h h' → LoZ h h' → Ln h' → Sp h' wv → Al h' → Cu h' → Q h' (9, 0)) : wp l rho (d + 7) 49 0 [(2, 82), (9, 0), (9, 0), (9, 0), (9, 0), (9, 0)] [] h Q := by
  have ck1 := Cu_s n_Cu
  refine w_aload_n gz_49_0 rfl ?_
  refine w_ldcS gz_49_1 (by decide) ?_
  refine w_inv (k := 1) (as := [(3, ((4 : Nat) : Int))]) (r := []) (x := 82) (ls0 := [(2, 82), (3, ((4 : Nat) : Int)), (9, 0)]) gz_49_3 gm_41 rfl is_82 rd_5 rfl rfl rfl rfl rfl (c_Reader_isWord9_f0 (d := (d + 2)) (x1 := ((4 : Nat) : Int)) (by decide) (cf.trans (by omega)) n_Cu (fun w2 xp3 => ?_) (fun w4 w5 xp6 => ?_))
  ·
    show wp l rho (d + 7) 49 6 [(2, 82), (9, 0), (9, 0), (9, 0), (9, 0), (9, 0)] [(0, 0)] h Q
    rw [show wc ((4 : Nat) : Int) = 316695 from by decide] at xp3
    refine w_istore_n (ls' := [(2, 82), (0, 0), (9, 0), (9, 0), (9, 0), (9, 0)]) gz_49_6 gm_49 rfl rfl rfl ?_
    refine w_aload_n gz_49_7 rfl ?_
    refine w_ldcS gz_49_8 (by decide) ?_
    refine w_inv (k := 1) (as := [(3, ((5 : Nat) : Int))]) (r := []) (x := 82) (ls0 := [(2, 82), (3, ((5 : Nat) : Int)), (9, 0)]) gz_49_10 gm_41 rfl is_82 rd_5 rfl rfl rfl rfl rfl (c_Reader_isWord9_f0 (d := (d + 2)) (x1 := ((5 : Nat) : Int)) (by decide) (cf.trans (by omega)) n_Cu (fun w7 xp8 => ?_) (fun w9 w10 xp11 => ?_))
    ·
      show wp l rho (d + 7) 49 13 [(2, 82), (0, 0), (9, 0), (9, 0), (9, 0), (9, 0)] [(0, 0)] h Q
      rw [show wc ((5 : Nat) : Int) = 4904 from by decide] at xp8
      refine w_istore_n (ls' := [(2, 82), (0, 0), (0, 0), (9, 0), (9, 0), (9, 0)]) gz_49_13 gm_49 rfl rfl rfl ?_
      refine w_aload_n gz_49_14 rfl ?_
      refine w_ldcS gz_49_15 (by decide) ?_
      refine w_inv (k := 1) (as := [(3, ((6 : Nat) : Int))]) (r := []) (x := 82) (ls0 := [(2, 82), (3, ((6 : Nat) : Int)), (9, 0)]) gz_49_17 gm_41 rfl is_82 rd_5 rfl rfl rfl rfl rfl (c_Reader_isWord9_f0 (d := (d + 2)) (x1 := ((6 : Nat) : Int)) (by decide) (cf.trans (by omega)) n_Cu (fun w12 xp13 => ?_) (fun w14 w15 xp16 => ?_))
      ·
        show wp l rho (d + 7) 49 20 [(2, 82), (0, 0), (0, 0), (9, 0), (9, 0), (9, 0)] [(0, 0)] h Q
        rw [show wc ((6 : Nat) : Int) = 8422 from by decide] at xp13
        refine w_istore_n (ls' := [(2, 82), (0, 0), (0, 0), (0, 0), (9, 0), (9, 0)]) gz_49_20 gm_49 rfl rfl rfl ?_
        refine w_aload_n gz_49_21 rfl ?_
        refine w_ldcS gz_49_22 (by decide) ?_
        refine w_inv (k := 1) (as := [(3, ((7 : Nat) : Int))]) (r := []) (x := 82) (ls0 := [(2, 82), (3, ((7 : Nat) : Int)), (9, 0)]) gz_49_24 gm_41 rfl is_82 rd_5 rfl rfl rfl rfl rfl (c_Reader_isWord9_f0 (d := (d + 2)) (x1 := ((7 : Nat) : Int)) (by decide) (cf.trans (by omega)) n_Cu (fun w17 xp18 => ?_) (fun w19 w20 xp21 => ?_))
        ·
          show wp l rho (d + 7) 49 27 [(2, 82), (0, 0), (0, 0), (0, 0), (9, 0), (9, 0)] [(0, 0)] h Q
          rw [show wc ((7 : Nat) : Int) = 527412 from by decide] at xp18
          refine w_istore (ls' := [(2, 82), (0, 0), (0, 0), (0, 0), (0, 0), (9, 0)]) gz_49_27 gm_49 rfl rfl rfl ?_
          refine w_aload_n gz_49_29 rfl ?_
          refine w_ldcS gz_49_30 (by decide) ?_
          refine w_inv (k := 1) (as := [(3, ((8 : Nat) : Int))]) (r := []) (x := 82) (ls0 := [(2, 82), (3, ((8 : Nat) : Int)), (9, 0)]) gz_49_32 gm_41 rfl is_82 rd_5 rfl rfl rfl rfl rfl (c_Reader_isWord9_f0 (d := (d + 2)) (x1 := ((8 : Nat) : Int)) (by decide) (cf.trans (by omega)) n_Cu (fun w22 xp23 => ?_) (fun w24 w25 xp26 => ?_))
          ·
            show wp l rho (d + 7) 49 35 [(2, 82), (0, 0), (0, 0), (0, 0), (0, 0), (9, 0)] [(0, 0)] h Q
            rw [show wc ((8 : Nat) : Int) = 26801 from by decide] at xp23
            refine w_istore (ls' := [(2, 82), (0, 0), (0, 0), (0, 0), (0, 0), (0, 0)]) gz_49_35 gm_49 rfl rfl rfl ?_
            refine w_iload_n gz_49_37 rfl ?_
            refine w_ifne (t := 65) gz_49_38 rfl (fun u27 => by exfalso; omega) (fun u27 => ?_)
            refine w_iload_n gz_49_41 rfl ?_
            refine w_ifne (t := 65) gz_49_42 rfl (fun u28 => by exfalso; omega) (fun u28 => ?_)
            refine w_iload_n gz_49_45 rfl ?_
            refine w_ifne (t := 65) gz_49_46 rfl (fun u29 => by exfalso; omega) (fun u29 => ?_)
            refine w_iload gz_49_49 rfl ?_
            refine w_ifne (t := 65) gz_49_51 rfl (fun u30 => by exfalso; omega) (fun u30 => ?_)
            refine w_iload gz_49_54 rfl ?_
            refine w_ifne (t := 65) gz_49_56 rfl (fun u31 => by exfalso; omega) (fun u31 => ?_)
            refine w_aload_n gz_49_59 rfl ?_
            refine w_iconst gz_49_60 (by decide) ?_
            refine w_inv (k := 0) (as := [(0, 1)]) (r := []) (x := 82) (ls0 := [(2, 82), (0, 1)]) gz_49_61 gm_42 rfl is_82 rd_5 rfl rfl rfl rfl rfl ?_
            refine w_aload_n gz_42_0 rfl ?_
            refine v_getI (j := 9) gz_42_1 rfl is_82 rd_5 rfl (fun v32 ev32 pv32 qv32 => ?_)
            have zv32 := ev32.trans cf
            refine w_ifne (t := 20) gz_42_4 rfl (fun u33 => by exfalso; omega) (fun u33 => ?_)
            refine w_aload_n gz_42_7 rfl ?_
            refine w_iload_n gz_42_8 rfl ?_
            refine w_bipush gz_42_9 (by decide) ?_
            refine w_aload_n gz_42_11 rfl ?_
            refine v_getI (j := 7) gz_42_12 rfl is_82 rd_5 rfl (fun v34 ev34 pv34 qv34 => ?_)
            refine w_imul gz_42_15 ⟨by omega, by omega⟩ ?_
            refine w_iadd gz_42_16 ⟨by omega, by omega⟩ ?_
            refine v_putI (j := 9) gz_42_17 rfl is_82 rd_5 rfl (by omega) (by omega) rfl (fun h35 fh35 => ?_)
            have gh35 : my_fr [(4, 4), (4, 5), (4, 6), (4, 7), (4, 8), (4, 9), (5, 5), (5, 6), (5, 7), (5, 8), (5, 9), (32, -1), (33, -1), (34, -1), (35, -1), (36, -1), (37, -1), (38, -1), (39, -1)] h h35 := my_fr.up my_fr.rf is_82 fh35 rfl
            have Ln_h35 : Ln h35 := Ln_ag (my_ag.up fh35 is_82 rfl) n_Ln
            have Sp_h35 : Sp h35 wv := Sp_ag (my_ag.up fh35 is_82 rfl) hwv n_Ln n_Sp
            have Al_h35 : Al h35 := Al_ag (my_ag.up fh35 is_82 rfl) n_Al
            have Cu_h35 : Cu h35 := Cu_ag (my_ag.up fh35 is_82 rfl) n_Cu
            have Lo_h35 : Lo h h35 := Lo_ag (my_ag.up fh35 is_82 rfl) n_Ln (Lo_rf)
            have AgZ_h35 : my_ag LzF h h35 := AgZ_ag (my_ag.up fh35 is_82 rfl) (my_ag.rf : my_ag LzF h h)
            have LoZ_h35 : LoZ h h35 := LoZ_ag (my_ag.up fh35 is_82 rfl) n_Ln (LoZ_rf)
            refine w_vret gz_42_20 gm_42 ?_
            show wp l rho (d + 7) 49 64 [(2, 82), (0, 0), (0, 0), (0, 0), (0, 0), (0, 0)] [] h35 Q
            have psR : h35 82 7 = h 82 7 := ((my_up_fld fh35 (by decide)).trans (rfl : h 82 7 = h 82 7))
            have npsR : cs h35 = cs h := cs_eq (fun j => my_fr.at gh35 is_92 rfl) (my_fr.at gh35 is_82 rfl)
            have c36 := (my_up_self fh35)
            exact w_vret gz_49_64 gm_49 (k0 h35 (gh35) (by omega) (by omega) (by first | exact pq9 | exact LoZ_h35 | exact Lo_h35 | exact ⟨st.1, st.2.1, st.2.2.2.2⟩ | exact Or.inl ⟨by omega, zF, st.2.2.1, st.2.2.2.1⟩ | exact Or.inr (Or.inr (Or.inl ⟨by omega, by omega, zC, st.2.2.1, st.2.2.2.1⟩)) | exact Or.inr (Or.inr (Or.inr (Or.inl ⟨by omega, by omega, zW, st.2.2.2.1⟩))) | exact Or.inr (Or.inr (Or.inr (Or.inr (Or.inl ⟨by omega, by omega, zJ, fun _ => st.2.2.1, st.2.2.2.1⟩)))) | exact Or.inr (Or.inr (Or.inr (Or.inr (Or.inr (Or.inl ⟨by omega, by omega, zS, st.2.2.1, st.2.2.2.1⟩))))) | exact ⟨_, _, _, Or.inl ⟨by omega, zF, rfl, rfl⟩⟩ | exact ⟨_, _, _, Or.inr (Or.inr (Or.inl ⟨by omega, by omega, zC, rfl, rfl⟩))⟩ | exact ⟨_, _, _, Or.inr (Or.inr (Or.inr (Or.inl ⟨by omega, by omega, zW, rfl⟩)))⟩ | exact ⟨_, 0, _, Or.inr (Or.inr (Or.inr (Or.inr (Or.inl ⟨by omega, by omega, zJ, fun q => absurd q (by omega), rfl⟩))))⟩ | exact ⟨_, _, _, Or.inr (Or.inr (Or.inr (Or.inr (Or.inr (Or.inl ⟨by omega, by omega, zS, rfl, rfl⟩)))))⟩ | exact ⟨0, 0, 0, Or.inr (Or.inl ⟨by omega, by omega, by omega⟩)⟩ | exact ⟨0, 0, 0, Or.inr (Or.inr (Or.inr (Or.inr (Or.inr (Or.inr ⟨by omega, by omega, by omega, by omega, by omega, by omega⟩)))))⟩ | (exfalso; omega) | omega) (by first | exact pq9 | exact LoZ_h35 | exact Lo_h35 | exact ⟨st.1, st.2.1, st.2.2.2.2⟩ | exact Or.inl ⟨by omega, zF, st.2.2.1, st.2.2.2.1⟩ | exact Or.inr (Or.inr (Or.inl ⟨by omega, by omega, zC, st.2.2.1, st.2.2.2.1⟩)) | exact Or.inr (Or.inr (Or.inr (Or.inl ⟨by omega, by omega, zW, st.2.2.2.1⟩))) | exact Or.inr (Or.inr (Or.inr (Or.inr (Or.inl ⟨by omega, by omega, zJ, fun _ => st.2.2.1, st.2.2.2.1⟩)))) | exact Or.inr (Or.inr (Or.inr (Or.inr (Or.inr (Or.inl ⟨by omega, by omega, zS, st.2.2.1, st.2.2.2.1⟩))))) | exact ⟨_, _, _, Or.inl ⟨by omega, zF, rfl, rfl⟩⟩ | exact ⟨_, _, _, Or.inr (Or.inr (Or.inl ⟨by omega, by omega, zC, rfl, rfl⟩))⟩ | exact ⟨_, _, _, Or.inr (Or.inr (Or.inr (Or.inl ⟨by omega, by omega, zW, rfl⟩)))⟩ | exact ⟨_, 0, _, Or.inr (Or.inr (Or.inr (Or.inr (Or.inl ⟨by omega, by omega, zJ, fun q => absurd q (by omega), rfl⟩))))⟩ | exact ⟨_, _, _, Or.inr (Or.inr (Or.inr (Or.inr (Or.inr (Or.inl ⟨by omega, by omega, zS, rfl, rfl⟩)))))⟩ | exact ⟨0, 0, 0, Or.inr (Or.inl ⟨by omega, by omega, by omega⟩)⟩ | exact ⟨0, 0, 0, Or.inr (Or.inr (Or.inr (Or.inr (Or.inr (Or.inr ⟨by omega, by omega, by omega, by omega, by omega, by omega⟩)))))⟩ | (exfalso; omega) | omega) (by first | exact pq9 | exact LoZ_h35 | exact Lo_h35 | exact ⟨st.1, st.2.1, st.2.2.2.2⟩ | exact Or.inl ⟨by omega, zF, st.2.2.1, st.2.2.2.1⟩ | exact Or.inr (Or.inr (Or.inl ⟨by omega, by omega, zC, st.2.2.1, st.2.2.2.1⟩)) | exact Or.inr (Or.inr (Or.inr (Or.inl ⟨by omega, by omega, zW, st.2.2.2.1⟩))) | exact Or.inr (Or.inr (Or.inr (Or.inr (Or.inl ⟨by omega, by omega, zJ, fun _ => st.2.2.1, st.2.2.2.1⟩)))) | exact Or.inr (Or.inr (Or.inr (Or.inr (Or.inr (Or.inl ⟨by omega, by omega, zS, st.2.2.1, st.2.2.2.1⟩))))) | exact ⟨_, _, _, Or.inl ⟨by omega, zF, rfl, rfl⟩⟩ | exact ⟨_, _, _, Or.inr (Or.inr (Or.inl ⟨by omega, by omega, zC, rfl, rfl⟩))⟩ | exact ⟨_, _, _, Or.inr (Or.inr (Or.inr (Or.inl ⟨by omega, by omega, zW, rfl⟩)))⟩ | exact ⟨_, 0, _, Or.inr (Or.inr (Or.inr (Or.inr (Or.inl ⟨by omega, by omega, zJ, fun q => absurd q (by omega), rfl⟩))))⟩ | exact ⟨_, _, _, Or.inr (Or.inr (Or.inr (Or.inr (Or.inr (Or.inl ⟨by omega, by omega, zS, rfl, rfl⟩)))))⟩ | exact ⟨0, 0, 0, Or.inr (Or.inl ⟨by omega, by omega, by omega⟩)⟩ | exact ⟨0, 0, 0, Or.inr (Or.inr (Or.inr (Or.inr (Or.inr (Or.inr ⟨by omega, by omega, by omega, by omega, by omega, by omega⟩)))))⟩ | (exfalso; omega) | omega) Ln_h35 Sp_h35 Al_h35 Cu_h35)
          ·
            show wp l rho (d + 7) 49 35 [(2, 82), (0, 0), (0, 0), (0, 0), (0, 0), (9, 0)] [(0, 1)] h Q
            rw [show wc ((8 : Nat) : Int) = 26801 from by decide] at xp26
            refine w_istore (ls' := [(2, 82), (0, 0), (0, 0), (0, 0), (0, 0), (0, 1)]) gz_49_35 gm_49 rfl rfl rfl ?_
            refine w_iload_n gz_49_37 rfl ?_
            refine w_ifne (t := 65) gz_49_38 rfl (fun u37 => by exfalso; omega) (fun u37 => ?_)
            refine w_iload_n gz_49_41 rfl ?_
            refine w_ifne (t := 65) gz_49_42 rfl (fun u38 => by exfalso; omega) (fun u38 => ?_)
            refine w_iload_n gz_49_45 rfl ?_
            refine w_ifne (t := 65) gz_49_46 rfl (fun u39 => by exfalso; omega) (fun u39 => ?_)
            refine w_iload gz_49_49 rfl ?_
            refine w_ifne (t := 65) gz_49_51 rfl (fun u40 => by exfalso; omega) (fun u40 => ?_)
            refine w_iload gz_49_54 rfl ?_
            refine w_ifne (t := 65) gz_49_56 rfl (fun u41 => ?_) (fun u41 => by exfalso; omega)
            refine w_iload_n gz_49_65 rfl ?_
            refine w_ifne (t := 87) gz_49_66 rfl (fun u42 => by exfalso; omega) (fun u42 => ?_)
            refine w_aload_n gz_49_69 rfl ?_
            refine v_getR (j := 2) gz_49_70 rfl is_82 rd_5 rfl (fun v43 ev43 tv43 => ?_)
            have sE73 : v43 = h 82 2 := by first | assumption | omega
            refine v_getI (j := 9) gz_49_73 rfl tv43 rd_4 rfl (fun v44 ev44 pv44 qv44 => ?_)
            have c76 : v44 = h (h 82 2) 9 := by rw [← sE73]; omega
            refine w_bipush gz_49_76 (by decide) ?_
            refine w_iclt (t := 87) gz_49_78 rfl (fun u45 => ?_) (fun u45 => ?_)
            ·
              have St5_ht46 : St5 h := ⟨by subst_vars; omega, by subst_vars; omega⟩
              refine w_aload_n gz_49_87 rfl ?_
              refine w_inv (k := 2) (as := []) (r := []) (x := 82) (ls0 := [(2, 82), (9, 0), (9, 0)]) gz_49_88 gm_37 rfl is_82 rd_5 rfl rfl rfl rfl rfl (c_Reader_nextToken9_f0 (d := (d + 5))  (cf.trans (by omega)) n_Al (fun h47 frh47 w48 w49 w50 xp51 xp52 Al_h47t53 Cu_h47t54 => ?_))
              have gh47 : my_fr [(4, 4), (4, 5), (4, 6), (4, 7), (4, 8), (4, 9), (5, 5), (5, 6), (5, 7), (5, 8), (5, 9), (32, -1), (33, -1), (34, -1), (35, -1), (36, -1), (37, -1), (38, -1), (39, -1)] h h47 := my_fr.tr my_fr.rf (frh47.mo rfl)
              have Ln_h47 : Ln h47 := Ln_ag (my_ag.fr frh47 rfl) n_Ln
              have Sp_h47 : Sp h47 wv := Sp_ag (my_ag.fr frh47 rfl) hwv n_Ln n_Sp
              have Lo_h47 : Lo h h47 := Lo_ag (my_ag.fr frh47 rfl) n_Ln (Lo_rf)
              have AgZ_h47 : my_ag LzF h h47 := AgZ_ag (my_ag.fr frh47 rfl) (my_ag.rf : my_ag LzF h h)
              have LoZ_h47 : LoZ h h47 := LoZ_ag (my_ag.fr frh47 rfl) n_Ln (LoZ_rf)
              have St5_h47 : St5 h47 := St5_ag (my_ag.fr frh47 rfl) n_Ln St5_ht46
              show wp l rho (d + 7) 49 91 [(2, 82), (0, 0), (0, 0), (0, 0), (0, 0), (0, 1)] [] h47 Q
              have xc55 := xp51 n_Cu
              have ck56 := Cu_s Cu_h47t54
              rw [show cs h47 = cs h from cs_eq (fun j => my_fr.at gh47 is_92 rfl) (my_fr.at gh47 is_82 rfl)] at ck56
              rw [show h47 82 7 = (sN (cs h) (h 82 7)) from xc55] at ck56
              refine w_iload_n gz_49_91 rfl ?_
              refine w_ifeq (t := 102) gz_49_92 rfl (fun u57 => ?_) (fun u57 => by exfalso; omega)
              refine w_iload_n gz_49_102 rfl ?_
              refine w_ifeq (t := 113) gz_49_103 rfl (fun u58 => ?_) (fun u58 => by exfalso; omega)
              refine w_iload_n gz_49_113 rfl ?_
              refine w_ifeq (t := 124) gz_49_114 rfl (fun u59 => ?_) (fun u59 => by exfalso; omega)
              refine w_iload gz_49_124 rfl ?_
              refine w_ifeq (t := 136) gz_49_126 rfl (fun u60 => ?_) (fun u60 => by exfalso; omega)
              refine w_aload_n gz_49_136 rfl ?_
              have az9 := AgZ_h47
              refine w_inv (k := 2) (as := []) (r := []) (x := 82) (ls0 := [(2, 82), (9, 0), (9, 0)]) gz_49_137 gm_62 rfl is_82 rd_5 rfl rfl rfl rfl rfl (c_Reader_readSum7_f0 (d := d)  (wv := wv) (((my_fr.at frh47 is_82 rfl).trans cf).trans (by omega)) (by first | assumption | omega) (by first | assumption | omega) Ln_h47 Sp_h47 St5_h47 Al_h47t53 Cu_h47t54 (fun h61 frh61 w62 w63 xp64 xp65 xp66 Ln_h61t67 Sp_h61t68 Al_h61t69 Cu_h61t70 => ?_) (fun h71 frh71 w72 xp73 xp74 xp75 xp76 xp77 Ln_h71t78 Sp_h71t79 Al_h71t80 Cu_h71t81 => ?_))
              ·
                have gh61 : my_fr [(4, 4), (4, 5), (4, 6), (4, 7), (4, 8), (4, 9), (5, 5), (5, 6), (5, 7), (5, 8), (5, 9), (32, -1), (33, -1), (34, -1), (35, -1), (36, -1), (37, -1), (38, -1), (39, -1)] h h61 := my_fr.tr gh47 (frh61.mo rfl)
                show wp l rho (d + 7) 49 140 [(2, 82), (0, 0), (0, 0), (0, 0), (0, 0), (0, 1)] [] h61 Q
                have tE82 : cs h47 = cs h := cs_eq (fun j => my_fr.at gh47 is_92 rfl) (my_fr.at gh47 is_82 rfl)
                rw [tE82] at xp64
                have ps83 : h47 82 7 = (sN (cs h) (h 82 7)) := xc55
                rw [ps83] at xp64
                have q2 : h47 82 2 = h 82 2 := my_fr.at frh47 is_82 rfl
                have q11 : h47 (h 82 2) 1 = h (h 82 2) 1 := my_fr.at frh47 n_Ln.2.2.2.1 rfl
                have q13 : h47 (h 82 2) 3 = h (h 82 2) 3 := my_fr.at frh47 n_Ln.2.2.2.1 rfl
                have q14 : h47 (h 82 2) 4 = h (h 82 2) 4 := my_fr.at frh47 n_Ln.2.2.2.1 rfl
                have q19 : h47 (h 82 2) 9 = h (h 82 2) 9 := my_fr.at frh47 n_Ln.2.2.2.1 rfl
                have qc : h47 2 = h 2 := funext (fun j => my_fr.at frh47 is_2 rfl)
                have zS := xp64
                simp only [q2, q11, q13, q14, q19, qc] at zS
                have Lo_h61t84 : Lo h h61 := Lo_tr Lo_h47 xp65
                have LoZ_h61t85 : LoZ h h61 := LoZ_tr LoZ_h47 xp66
                have psR : h61 82 7 = h61 82 7 := (rfl : h61 82 7 = h61 82 7)
                have npsR : cs h61 = cs h := cs_eq (fun j => my_fr.at gh61 is_92 rfl) (my_fr.at gh61 is_82 rfl)
                have c86 := (rfl : h61 82 9 = h61 82 9)
                exact w_vret gz_49_140 gm_49 (k0 h61 (gh61) (by omega) (by omega) (by first | exact pq9 | exact LoZ_h61t85 | exact Lo_h61t84 | exact ⟨st.1, st.2.1, st.2.2.2.2⟩ | exact Or.inl ⟨by omega, zF, st.2.2.1, st.2.2.2.1⟩ | exact Or.inr (Or.inr (Or.inl ⟨by omega, by omega, zC, st.2.2.1, st.2.2.2.1⟩)) | exact Or.inr (Or.inr (Or.inr (Or.inl ⟨by omega, by omega, zW, st.2.2.2.1⟩))) | exact Or.inr (Or.inr (Or.inr (Or.inr (Or.inl ⟨by omega, by omega, zJ, fun _ => st.2.2.1, st.2.2.2.1⟩)))) | exact Or.inr (Or.inr (Or.inr (Or.inr (Or.inr (Or.inl ⟨by omega, by omega, zS, st.2.2.1, st.2.2.2.1⟩))))) | exact ⟨_, _, _, Or.inl ⟨by omega, zF, rfl, rfl⟩⟩ | exact ⟨_, _, _, Or.inr (Or.inr (Or.inl ⟨by omega, by omega, zC, rfl, rfl⟩))⟩ | exact ⟨_, _, _, Or.inr (Or.inr (Or.inr (Or.inl ⟨by omega, by omega, zW, rfl⟩)))⟩ | exact ⟨_, 0, _, Or.inr (Or.inr (Or.inr (Or.inr (Or.inl ⟨by omega, by omega, zJ, fun q => absurd q (by omega), rfl⟩))))⟩ | exact ⟨_, _, _, Or.inr (Or.inr (Or.inr (Or.inr (Or.inr (Or.inl ⟨by omega, by omega, zS, rfl, rfl⟩)))))⟩ | exact ⟨0, 0, 0, Or.inr (Or.inl ⟨by omega, by omega, by omega⟩)⟩ | exact ⟨0, 0, 0, Or.inr (Or.inr (Or.inr (Or.inr (Or.inr (Or.inr ⟨by omega, by omega, by omega, by omega, by omega, by omega⟩)))))⟩ | (exfalso; omega) | omega) (by first | exact pq9 | exact LoZ_h61t85 | exact Lo_h61t84 | exact ⟨st.1, st.2.1, st.2.2.2.2⟩ | exact Or.inl ⟨by omega, zF, st.2.2.1, st.2.2.2.1⟩ | exact Or.inr (Or.inr (Or.inl ⟨by omega, by omega, zC, st.2.2.1, st.2.2.2.1⟩)) | exact Or.inr (Or.inr (Or.inr (Or.inl ⟨by omega, by omega, zW, st.2.2.2.1⟩))) | exact Or.inr (Or.inr (Or.inr (Or.inr (Or.inl ⟨by omega, by omega, zJ, fun _ => st.2.2.1, st.2.2.2.1⟩)))) | exact Or.inr (Or.inr (Or.inr (Or.inr (Or.inr (Or.inl ⟨by omega, by omega, zS, st.2.2.1, st.2.2.2.1⟩))))) | exact ⟨_, _, _, Or.inl ⟨by omega, zF, rfl, rfl⟩⟩ | exact ⟨_, _, _, Or.inr (Or.inr (Or.inl ⟨by omega, by omega, zC, rfl, rfl⟩))⟩ | exact ⟨_, _, _, Or.inr (Or.inr (Or.inr (Or.inl ⟨by omega, by omega, zW, rfl⟩)))⟩ | exact ⟨_, 0, _, Or.inr (Or.inr (Or.inr (Or.inr (Or.inl ⟨by omega, by omega, zJ, fun q => absurd q (by omega), rfl⟩))))⟩ | exact ⟨_, _, _, Or.inr (Or.inr (Or.inr (Or.inr (Or.inr (Or.inl ⟨by omega, by omega, zS, rfl, rfl⟩)))))⟩ | exact ⟨0, 0, 0, Or.inr (Or.inl ⟨by omega, by omega, by omega⟩)⟩ | exact ⟨0, 0, 0, Or.inr (Or.inr (Or.inr (Or.inr (Or.inr (Or.inr ⟨by omega, by omega, by omega, by omega, by omega, by omega⟩)))))⟩ | (exfalso; omega) | omega) (by first | exact pq9 | exact LoZ_h61t85 | exact Lo_h61t84 | exact ⟨st.1, st.2.1, st.2.2.2.2⟩ | exact Or.inl ⟨by omega, zF, st.2.2.1, st.2.2.2.1⟩ | exact Or.inr (Or.inr (Or.inl ⟨by omega, by omega, zC, st.2.2.1, st.2.2.2.1⟩)) | exact Or.inr (Or.inr (Or.inr (Or.inl ⟨by omega, by omega, zW, st.2.2.2.1⟩))) | exact Or.inr (Or.inr (Or.inr (Or.inr (Or.inl ⟨by omega, by omega, zJ, fun _ => st.2.2.1, st.2.2.2.1⟩)))) | exact Or.inr (Or.inr (Or.inr (Or.inr (Or.inr (Or.inl ⟨by omega, by omega, zS, st.2.2.1, st.2.2.2.1⟩))))) | exact ⟨_, _, _, Or.inl ⟨by omega, zF, rfl, rfl⟩⟩ | exact ⟨_, _, _, Or.inr (Or.inr (Or.inl ⟨by omega, by omega, zC, rfl, rfl⟩))⟩ | exact ⟨_, _, _, Or.inr (Or.inr (Or.inr (Or.inl ⟨by omega, by omega, zW, rfl⟩)))⟩ | exact ⟨_, 0, _, Or.inr (Or.inr (Or.inr (Or.inr (Or.inl ⟨by omega, by omega, zJ, fun q => absurd q (by omega), rfl⟩))))⟩ | exact ⟨_, _, _, Or.inr (Or.inr (Or.inr (Or.inr (Or.inr (Or.inl ⟨by omega, by omega, zS, rfl, rfl⟩)))))⟩ | exact ⟨0, 0, 0, Or.inr (Or.inl ⟨by omega, by omega, by omega⟩)⟩ | exact ⟨0, 0, 0, Or.inr (Or.inr (Or.inr (Or.inr (Or.inr (Or.inr ⟨by omega, by omega, by omega, by omega, by omega, by omega⟩)))))⟩ | (exfalso; omega) | omega) Ln_h61t67 Sp_h61t68 Al_h61t69 Cu_h61t70)
              ·
                have gh71 : my_fr [(4, 4), (4, 5), (4, 6), (4, 7), (4, 8), (4, 9), (5, 5), (5, 6), (5, 7), (5, 8), (5, 9), (32, -1), (33, -1), (34, -1), (35, -1), (36, -1), (37, -1), (38, -1), (39, -1)] h h71 := my_fr.tr gh47 (frh71.mo rfl)
                show wp l rho (d + 7) 49 140 [(2, 82), (0, 0), (0, 0), (0, 0), (0, 0), (0, 1)] [] h71 Q
                have tE87 : cs h47 = cs h := cs_eq (fun j => my_fr.at gh47 is_92 rfl) (my_fr.at gh47 is_82 rfl)
                rw [tE87] at xp73
                have ps88 : h47 82 7 = (sN (cs h) (h 82 7)) := xc55
                rw [ps88] at xp73
                rw [tE87] at xp76
                rw [ps88] at xp76
                have q2 : h47 82 2 = h 82 2 := my_fr.at frh47 is_82 rfl
                have q11 : h47 (h 82 2) 1 = h (h 82 2) 1 := my_fr.at frh47 n_Ln.2.2.2.1 rfl
                have q13 : h47 (h 82 2) 3 = h (h 82 2) 3 := my_fr.at frh47 n_Ln.2.2.2.1 rfl
                have q14 : h47 (h 82 2) 4 = h (h 82 2) 4 := my_fr.at frh47 n_Ln.2.2.2.1 rfl
                have q19 : h47 (h 82 2) 9 = h (h 82 2) 9 := my_fr.at frh47 n_Ln.2.2.2.1 rfl
                have qc : h47 2 = h 2 := funext (fun j => my_fr.at frh47 is_2 rfl)
                have zS := xp73
                simp only [q2, q11, q13, q14, q19, qc] at zS
                have st := xp74
                unfold Std at st
                simp only [q2, q11, q13, q14, q19, qc] at st
                have Lo_h71t89 : Lo h h71 := Lo_tr Lo_h47 xp75
                have z9 := xp76
                try simp only [q2, q11, q13, q14, q19, qc] at z9
                have pq9 : PnQ h h71 := PnQ_sum (by omega) az9 q2 n_Ln.2.2.2.1 z9
                have LoZ_h71t90 : LoZ h h71 := LoZ_tr LoZ_h47 xp77
                have psR : h71 82 7 = h71 82 7 := (rfl : h71 82 7 = h71 82 7)
                have npsR : cs h71 = cs h := cs_eq (fun j => my_fr.at gh71 is_92 rfl) (my_fr.at gh71 is_82 rfl)
                have c91 := w72
                exact w_vret gz_49_140 gm_49 (k1 h71 (gh71) (by omega) (by first | exact pq9 | exact LoZ_h71t90 | exact Lo_h71t89 | exact ⟨st.1, st.2.1, st.2.2.2.2⟩ | exact Or.inl ⟨by omega, zF, st.2.2.1, st.2.2.2.1⟩ | exact Or.inr (Or.inr (Or.inl ⟨by omega, by omega, zC, st.2.2.1, st.2.2.2.1⟩)) | exact Or.inr (Or.inr (Or.inr (Or.inl ⟨by omega, by omega, zW, st.2.2.2.1⟩))) | exact Or.inr (Or.inr (Or.inr (Or.inr (Or.inl ⟨by omega, by omega, zJ, fun _ => st.2.2.1, st.2.2.2.1⟩)))) | exact Or.inr (Or.inr (Or.inr (Or.inr (Or.inr (Or.inl ⟨by omega, by omega, zS, st.2.2.1, st.2.2.2.1⟩))))) | exact ⟨_, _, _, Or.inl ⟨by omega, zF, rfl, rfl⟩⟩ | exact ⟨_, _, _, Or.inr (Or.inr (Or.inl ⟨by omega, by omega, zC, rfl, rfl⟩))⟩ | exact ⟨_, _, _, Or.inr (Or.inr (Or.inr (Or.inl ⟨by omega, by omega, zW, rfl⟩)))⟩ | exact ⟨_, 0, _, Or.inr (Or.inr (Or.inr (Or.inr (Or.inl ⟨by omega, by omega, zJ, fun q => absurd q (by omega), rfl⟩))))⟩ | exact ⟨_, _, _, Or.inr (Or.inr (Or.inr (Or.inr (Or.inr (Or.inl ⟨by omega, by omega, zS, rfl, rfl⟩)))))⟩ | exact ⟨0, 0, 0, Or.inr (Or.inl ⟨by omega, by omega, by omega⟩)⟩ | exact ⟨0, 0, 0, Or.inr (Or.inr (Or.inr (Or.inr (Or.inr (Or.inr ⟨by omega, by omega, by omega, by omega, by omega, by omega⟩)))))⟩ | (exfalso; omega) | omega) (by first | exact pq9 | exact LoZ_h71t90 | exact Lo_h71t89 | exact ⟨st.1, st.2.1, st.2.2.2.2⟩ | exact Or.inl ⟨by omega, zF, st.2.2.1, st.2.2.2.1⟩ | exact Or.inr (Or.inr (Or.inl ⟨by omega, by omega, zC, st.2.2.1, st.2.2.2.1⟩)) | exact Or.inr (Or.inr (Or.inr (Or.inl ⟨by omega, by omega, zW, st.2.2.2.1⟩))) | exact Or.inr (Or.inr (Or.inr (Or.inr (Or.inl ⟨by omega, by omega, zJ, fun _ => st.2.2.1, st.2.2.2.1⟩)))) | exact Or.inr (Or.inr (Or.inr (Or.inr (Or.inr (Or.inl ⟨by omega, by omega, zS, st.2.2.1, st.2.2.2.1⟩))))) | exact ⟨_, _, _, Or.inl ⟨by omega, zF, rfl, rfl⟩⟩ | exact ⟨_, _, _, Or.inr (Or.inr (Or.inl ⟨by omega, by omega, zC, rfl, rfl⟩))⟩ | exact ⟨_, _, _, Or.inr (Or.inr (Or.inr (Or.inl ⟨by omega, by omega, zW, rfl⟩)))⟩ | exact ⟨_, 0, _, Or.inr (Or.inr (Or.inr (Or.inr (Or.inl ⟨by omega, by omega, zJ, fun q => absurd q (by omega), rfl⟩))))⟩ | exact ⟨_, _, _, Or.inr (Or.inr (Or.inr (Or.inr (Or.inr (Or.inl ⟨by omega, by omega, zS, rfl, rfl⟩)))))⟩ | exact ⟨0, 0, 0, Or.inr (Or.inl ⟨by omega, by omega, by omega⟩)⟩ | exact ⟨0, 0, 0, Or.inr (Or.inr (Or.inr (Or.inr (Or.inr (Or.inr ⟨by omega, by omega, by omega, by omega, by omega, by omega⟩)))))⟩ | (exfalso; omega) | omega) (by first | exact pq9 | exact LoZ_h71t90 | exact Lo_h71t89 | exact ⟨st.1, st.2.1, st.2.2.2.2⟩ | exact Or.inl ⟨by omega, zF, st.2.2.1, st.2.2.2.1⟩ | exact Or.inr (Or.inr (Or.inl ⟨by omega, by omega, zC, st.2.2.1, st.2.2.2.1⟩)) | exact Or.inr (Or.inr (Or.inr (Or.inl ⟨by omega, by omega, zW, st.2.2.2.1⟩))) | exact Or.inr (Or.inr (Or.inr (Or.inr (Or.inl ⟨by omega, by omega, zJ, fun _ => st.2.2.1, st.2.2.2.1⟩)))) | exact Or.inr (Or.inr (Or.inr (Or.inr (Or.inr (Or.inl ⟨by omega, by omega, zS, st.2.2.1, st.2.2.2.1⟩))))) | exact ⟨_, _, _, Or.inl ⟨by omega, zF, rfl, rfl⟩⟩ | exact ⟨_, _, _, Or.inr (Or.inr (Or.inl ⟨by omega, by omega, zC, rfl, rfl⟩))⟩ | exact ⟨_, _, _, Or.inr (Or.inr (Or.inr (Or.inl ⟨by omega, by omega, zW, rfl⟩)))⟩ | exact ⟨_, 0, _, Or.inr (Or.inr (Or.inr (Or.inr (Or.inl ⟨by omega, by omega, zJ, fun q => absurd q (by omega), rfl⟩))))⟩ | exact ⟨_, _, _, Or.inr (Or.inr (Or.inr (Or.inr (Or.inr (Or.inl ⟨by omega, by omega, zS, rfl, rfl⟩)))))⟩ | exact ⟨0, 0, 0, Or.inr (Or.inl ⟨by omega, by omega, by omega⟩)⟩ | exact ⟨0, 0, 0, Or.inr (Or.inr (Or.inr (Or.inr (Or.inr (Or.inr ⟨by omega, by omega, by omega, by omega, by omega, by omega⟩)))))⟩ | (exfalso; omega) | omega) (by first | exact pq9 | exact LoZ_h71t90 | exact Lo_h71t89 | exact ⟨st.1, st.2.1, st.2.2.2.2⟩ | exact Or.inl ⟨by omega, zF, st.2.2.1, st.2.2.2.1⟩ | exact Or.inr (Or.inr (Or.inl ⟨by omega, by omega, zC, st.2.2.1, st.2.2.2.1⟩)) | exact Or.inr (Or.inr (Or.inr (Or.inl ⟨by omega, by omega, zW, st.2.2.2.1⟩))) | exact Or.inr (Or.inr (Or.inr (Or.inr (Or.inl ⟨by omega, by omega, zJ, fun _ => st.2.2.1, st.2.2.2.1⟩)))) | exact Or.inr (Or.inr (Or.inr (Or.inr (Or.inr (Or.inl ⟨by omega, by omega, zS, st.2.2.1, st.2.2.2.1⟩))))) | exact ⟨_, _, _, Or.inl ⟨by omega, zF, rfl, rfl⟩⟩ | exact ⟨_, _, _, Or.inr (Or.inr (Or.inl ⟨by omega, by omega, zC, rfl, rfl⟩))⟩ | exact ⟨_, _, _, Or.inr (Or.inr (Or.inr (Or.inl ⟨by omega, by omega, zW, rfl⟩)))⟩ | exact ⟨_, 0, _, Or.inr (Or.inr (Or.inr (Or.inr (Or.inl ⟨by omega, by omega, zJ, fun q => absurd q (by omega), rfl⟩))))⟩ | exact ⟨_, _, _, Or.inr (Or.inr (Or.inr (Or.inr (Or.inr (Or.inl ⟨by omega, by omega, zS, rfl, rfl⟩)))))⟩ | exact ⟨0, 0, 0, Or.inr (Or.inl ⟨by omega, by omega, by omega⟩)⟩ | exact ⟨0, 0, 0, Or.inr (Or.inr (Or.inr (Or.inr (Or.inr (Or.inr ⟨by omega, by omega, by omega, by omega, by omega, by omega⟩)))))⟩ | (exfalso; omega) | omega) (by first | exact pq9 | exact LoZ_h71t90 | exact Lo_h71t89 | exact ⟨st.1, st.2.1, st.2.2.2.2⟩ | exact Or.inl ⟨by omega, zF, st.2.2.1, st.2.2.2.1⟩ | exact Or.inr (Or.inr (Or.inl ⟨by omega, by omega, zC, st.2.2.1, st.2.2.2.1⟩)) | exact Or.inr (Or.inr (Or.inr (Or.inl ⟨by omega, by omega, zW, st.2.2.2.1⟩))) | exact Or.inr (Or.inr (Or.inr (Or.inr (Or.inl ⟨by omega, by omega, zJ, fun _ => st.2.2.1, st.2.2.2.1⟩)))) | exact Or.inr (Or.inr (Or.inr (Or.inr (Or.inr (Or.inl ⟨by omega, by omega, zS, st.2.2.1, st.2.2.2.1⟩))))) | exact ⟨_, _, _, Or.inl ⟨by omega, zF, rfl, rfl⟩⟩ | exact ⟨_, _, _, Or.inr (Or.inr (Or.inl ⟨by omega, by omega, zC, rfl, rfl⟩))⟩ | exact ⟨_, _, _, Or.inr (Or.inr (Or.inr (Or.inl ⟨by omega, by omega, zW, rfl⟩)))⟩ | exact ⟨_, 0, _, Or.inr (Or.inr (Or.inr (Or.inr (Or.inl ⟨by omega, by omega, zJ, fun q => absurd q (by omega), rfl⟩))))⟩ | exact ⟨_, _, _, Or.inr (Or.inr (Or.inr (Or.inr (Or.inr (Or.inl ⟨by omega, by omega, zS, rfl, rfl⟩)))))⟩ | exact ⟨0, 0, 0, Or.inr (Or.inl ⟨by omega, by omega, by omega⟩)⟩ | exact ⟨0, 0, 0, Or.inr (Or.inr (Or.inr (Or.inr (Or.inr (Or.inr ⟨by omega, by omega, by omega, by omega, by omega, by omega⟩)))))⟩ | (exfalso; omega) | omega) Ln_h71t78 Sp_h71t79 Al_h71t80 Cu_h71t81)
            ·
              refine w_aload_n gz_49_81 rfl ?_
              refine w_iconst gz_49_82 (by decide) ?_
              refine w_inv (k := 0) (as := [(0, 5)]) (r := []) (x := 82) (ls0 := [(2, 82), (0, 5)]) gz_49_83 gm_42 rfl is_82 rd_5 rfl rfl rfl rfl rfl ?_
              refine w_aload_n gz_42_0 rfl ?_
              refine v_getI (j := 9) gz_42_1 rfl is_82 rd_5 rfl (fun v92 ev92 pv92 qv92 => ?_)
              have zv92 := ev92.trans cf
              refine w_ifne (t := 20) gz_42_4 rfl (fun u93 => by exfalso; omega) (fun u93 => ?_)
              refine w_aload_n gz_42_7 rfl ?_
              refine w_iload_n gz_42_8 rfl ?_
              refine w_bipush gz_42_9 (by decide) ?_
              refine w_aload_n gz_42_11 rfl ?_
              refine v_getI (j := 7) gz_42_12 rfl is_82 rd_5 rfl (fun v94 ev94 pv94 qv94 => ?_)
              refine w_imul gz_42_15 ⟨by omega, by omega⟩ ?_
              refine w_iadd gz_42_16 ⟨by omega, by omega⟩ ?_
              refine v_putI (j := 9) gz_42_17 rfl is_82 rd_5 rfl (by omega) (by omega) rfl (fun h95 fh95 => ?_)
              have gh95 : my_fr [(4, 4), (4, 5), (4, 6), (4, 7), (4, 8), (4, 9), (5, 5), (5, 6), (5, 7), (5, 8), (5, 9), (32, -1), (33, -1), (34, -1), (35, -1), (36, -1), (37, -1), (38, -1), (39, -1)] h h95 := my_fr.up my_fr.rf is_82 fh95 rfl
              have Ln_h95 : Ln h95 := Ln_ag (my_ag.up fh95 is_82 rfl) n_Ln
              have Sp_h95 : Sp h95 wv := Sp_ag (my_ag.up fh95 is_82 rfl) hwv n_Ln n_Sp
              have Al_h95 : Al h95 := Al_ag (my_ag.up fh95 is_82 rfl) n_Al
              have Cu_h95 : Cu h95 := Cu_ag (my_ag.up fh95 is_82 rfl) n_Cu
              have Lo_h95 : Lo h h95 := Lo_ag (my_ag.up fh95 is_82 rfl) n_Ln (Lo_rf)
              have AgZ_h95 : my_ag LzF h h95 := AgZ_ag (my_ag.up fh95 is_82 rfl) (my_ag.rf : my_ag LzF h h)
              have LoZ_h95 : LoZ h h95 := LoZ_ag (my_ag.up fh95 is_82 rfl) n_Ln (LoZ_rf)
              refine w_vret gz_42_20 gm_42 ?_
              show wp l rho (d + 7) 49 86 [(2, 82), (0, 0), (0, 0), (0, 0), (0, 0), (0, 1)] [] h95 Q
              have psR : h95 82 7 = h 82 7 := ((my_up_fld fh95 (by decide)).trans (rfl : h 82 7 = h 82 7))
              have npsR : cs h95 = cs h := cs_eq (fun j => my_fr.at gh95 is_92 rfl) (my_fr.at gh95 is_82 rfl)
              have c96 := (my_up_self fh95)
              exact w_vret gz_49_86 gm_49 (k0 h95 (gh95) (by omega) (by omega) (by first | exact pq9 | exact LoZ_h95 | exact Lo_h95 | exact ⟨st.1, st.2.1, st.2.2.2.2⟩ | exact Or.inl ⟨by omega, zF, st.2.2.1, st.2.2.2.1⟩ | exact Or.inr (Or.inr (Or.inl ⟨by omega, by omega, zC, st.2.2.1, st.2.2.2.1⟩)) | exact Or.inr (Or.inr (Or.inr (Or.inl ⟨by omega, by omega, zW, st.2.2.2.1⟩))) | exact Or.inr (Or.inr (Or.inr (Or.inr (Or.inl ⟨by omega, by omega, zJ, fun _ => st.2.2.1, st.2.2.2.1⟩)))) | exact Or.inr (Or.inr (Or.inr (Or.inr (Or.inr (Or.inl ⟨by omega, by omega, zS, st.2.2.1, st.2.2.2.1⟩))))) | exact ⟨_, _, _, Or.inl ⟨by omega, zF, rfl, rfl⟩⟩ | exact ⟨_, _, _, Or.inr (Or.inr (Or.inl ⟨by omega, by omega, zC, rfl, rfl⟩))⟩ | exact ⟨_, _, _, Or.inr (Or.inr (Or.inr (Or.inl ⟨by omega, by omega, zW, rfl⟩)))⟩ | exact ⟨_, 0, _, Or.inr (Or.inr (Or.inr (Or.inr (Or.inl ⟨by omega, by omega, zJ, fun q => absurd q (by omega), rfl⟩))))⟩ | exact ⟨_, _, _, Or.inr (Or.inr (Or.inr (Or.inr (Or.inr (Or.inl ⟨by omega, by omega, zS, rfl, rfl⟩)))))⟩ | exact ⟨0, 0, 0, Or.inr (Or.inl ⟨by omega, by omega, by omega⟩)⟩ | exact ⟨0, 0, 0, Or.inr (Or.inr (Or.inr (Or.inr (Or.inr (Or.inr ⟨by omega, by omega, by omega, by omega, by omega, by omega⟩)))))⟩ | (exfalso; omega) | omega) (by first | exact pq9 | exact LoZ_h95 | exact Lo_h95 | exact ⟨st.1, st.2.1, st.2.2.2.2⟩ | exact Or.inl ⟨by omega, zF, st.2.2.1, st.2.2.2.1⟩ | exact Or.inr (Or.inr (Or.inl ⟨by omega, by omega, zC, st.2.2.1, st.2.2.2.1⟩)) | exact Or.inr (Or.inr (Or.inr (Or.inl ⟨by omega, by omega, zW, st.2.2.2.1⟩))) | exact Or.inr (Or.inr (Or.inr (Or.inr (Or.inl ⟨by omega, by omega, zJ, fun _ => st.2.2.1, st.2.2.2.1⟩)))) | exact Or.inr (Or.inr (Or.inr (Or.inr (Or.inr (Or.inl ⟨by omega, by omega, zS, st.2.2.1, st.2.2.2.1⟩))))) | exact ⟨_, _, _, Or.inl ⟨by omega, zF, rfl, rfl⟩⟩ | exact ⟨_, _, _, Or.inr (Or.inr (Or.inl ⟨by omega, by omega, zC, rfl, rfl⟩))⟩ | exact ⟨_, _, _, Or.inr (Or.inr (Or.inr (Or.inl ⟨by omega, by omega, zW, rfl⟩)))⟩ | exact ⟨_, 0, _, Or.inr (Or.inr (Or.inr (Or.inr (Or.inl ⟨by omega, by omega, zJ, fun q => absurd q (by omega), rfl⟩))))⟩ | exact ⟨_, _, _, Or.inr (Or.inr (Or.inr (Or.inr (Or.inr (Or.inl ⟨by omega, by omega, zS, rfl, rfl⟩)))))⟩ | exact ⟨0, 0, 0, Or.inr (Or.inl ⟨by omega, by omega, by omega⟩)⟩ | exact ⟨0, 0, 0, Or.inr (Or.inr (Or.inr (Or.inr (Or.inr (Or.inr ⟨by omega, by omega, by omega, by omega, by omega, by omega⟩)))))⟩ | (exfalso; omega) | omega) (by first | exact pq9 | exact LoZ_h95 | exact Lo_h95 | exact ⟨st.1, st.2.1, st.2.2.2.2⟩ | exact Or.inl ⟨by omega, zF, st.2.2.1, st.2.2.2.1⟩ | exact Or.inr (Or.inr (Or.inl ⟨by omega, by omega, zC, st.2.2.1, st.2.2.2.1⟩)) | exact Or.inr (Or.inr (Or.inr (Or.inl ⟨by omega, by omega, zW, st.2.2.2.1⟩))) | exact Or.inr (Or.inr (Or.inr (Or.inr (Or.inl ⟨by omega, by omega, zJ, fun _ => st.2.2.1, st.2.2.2.1⟩)))) | exact Or.inr (Or.inr (Or.inr (Or.inr (Or.inr (Or.inl ⟨by omega, by omega, zS, st.2.2.1, st.2.2.2.1⟩))))) | exact ⟨_, _, _, Or.inl ⟨by omega, zF, rfl, rfl⟩⟩ | exact ⟨_, _, _, Or.inr (Or.inr (Or.inl ⟨by omega, by omega, zC, rfl, rfl⟩))⟩ | exact ⟨_, _, _, Or.inr (Or.inr (Or.inr (Or.inl ⟨by omega, by omega, zW, rfl⟩)))⟩ | exact ⟨_, 0, _, Or.inr (Or.inr (Or.inr (Or.inr (Or.inl ⟨by omega, by omega, zJ, fun q => absurd q (by omega), rfl⟩))))⟩ | exact ⟨_, _, _, Or.inr (Or.inr (Or.inr (Or.inr (Or.inr (Or.inl ⟨by omega, by omega, zS, rfl, rfl⟩)))))⟩ | exact ⟨0, 0, 0, Or.inr (Or.inl ⟨by omega, by omega, by omega⟩)⟩ | exact ⟨0, 0, 0, Or.inr (Or.inr (Or.inr (Or.inr (Or.inr (Or.inr ⟨by omega, by omega, by omega, by omega, by omega, by omega⟩)))))⟩ | (exfalso; omega) | omega) Ln_h95 Sp_h95 Al_h95 Cu_h95)
        ·
          show wp l rho (d + 7) 49 27 [(2, 82), (0, 0), (0, 0), (0, 0), (9, 0), (9, 0)] [(0, 1)] h Q
          rw [show wc ((7 : Nat) : Int) = 527412 from by decide] at xp21
          refine w_istore (ls' := [(2, 82), (0, 0), (0, 0), (0, 0), (0, 1), (9, 0)]) gz_49_27 gm_49 rfl rfl rfl ?_
          refine w_aload_n gz_49_29 rfl ?_
          refine w_ldcS gz_49_30 (by decide) ?_
          refine w_inv (k := 1) (as := [(3, ((8 : Nat) : Int))]) (r := []) (x := 82) (ls0 := [(2, 82), (3, ((8 : Nat) : Int)), (9, 0)]) gz_49_32 gm_41 rfl is_82 rd_5 rfl rfl rfl rfl rfl (c_Reader_isWord9_f0 (d := (d + 2)) (x1 := ((8 : Nat) : Int)) (by decide) (cf.trans (by omega)) n_Cu (fun w97 xp98 => ?_) (fun w99 w100 xp101 => ?_))
          ·
            show wp l rho (d + 7) 49 35 [(2, 82), (0, 0), (0, 0), (0, 0), (0, 1), (9, 0)] [(0, 0)] h Q
            rw [show wc ((8 : Nat) : Int) = 26801 from by decide] at xp98
            refine w_istore (ls' := [(2, 82), (0, 0), (0, 0), (0, 0), (0, 1), (0, 0)]) gz_49_35 gm_49 rfl rfl rfl ?_
            refine w_iload_n gz_49_37 rfl ?_
            refine w_ifne (t := 65) gz_49_38 rfl (fun u102 => by exfalso; omega) (fun u102 => ?_)
            refine w_iload_n gz_49_41 rfl ?_
            refine w_ifne (t := 65) gz_49_42 rfl (fun u103 => by exfalso; omega) (fun u103 => ?_)
            refine w_iload_n gz_49_45 rfl ?_
            refine w_ifne (t := 65) gz_49_46 rfl (fun u104 => by exfalso; omega) (fun u104 => ?_)
            refine w_iload gz_49_49 rfl ?_
            refine w_ifne (t := 65) gz_49_51 rfl (fun u105 => ?_) (fun u105 => by exfalso; omega)
            refine w_iload_n gz_49_65 rfl ?_
            refine w_ifne (t := 87) gz_49_66 rfl (fun u106 => by exfalso; omega) (fun u106 => ?_)
            refine w_aload_n gz_49_69 rfl ?_
            refine v_getR (j := 2) gz_49_70 rfl is_82 rd_5 rfl (fun v107 ev107 tv107 => ?_)
            have sE73 : v107 = h 82 2 := by first | assumption | omega
            refine v_getI (j := 9) gz_49_73 rfl tv107 rd_4 rfl (fun v108 ev108 pv108 qv108 => ?_)
            have c76 : v108 = h (h 82 2) 9 := by rw [← sE73]; omega
            refine w_bipush gz_49_76 (by decide) ?_
            refine w_iclt (t := 87) gz_49_78 rfl (fun u109 => ?_) (fun u109 => ?_)
            ·
              have St5_ht110 : St5 h := ⟨by subst_vars; omega, by subst_vars; omega⟩
              refine w_aload_n gz_49_87 rfl ?_
              refine w_inv (k := 2) (as := []) (r := []) (x := 82) (ls0 := [(2, 82), (9, 0), (9, 0)]) gz_49_88 gm_37 rfl is_82 rd_5 rfl rfl rfl rfl rfl (c_Reader_nextToken9_f0 (d := (d + 5))  (cf.trans (by omega)) n_Al (fun h111 frh111 w112 w113 w114 xp115 xp116 Al_h111t117 Cu_h111t118 => ?_))
              have gh111 : my_fr [(4, 4), (4, 5), (4, 6), (4, 7), (4, 8), (4, 9), (5, 5), (5, 6), (5, 7), (5, 8), (5, 9), (32, -1), (33, -1), (34, -1), (35, -1), (36, -1), (37, -1), (38, -1), (39, -1)] h h111 := my_fr.tr my_fr.rf (frh111.mo rfl)
              have Ln_h111 : Ln h111 := Ln_ag (my_ag.fr frh111 rfl) n_Ln
              have Sp_h111 : Sp h111 wv := Sp_ag (my_ag.fr frh111 rfl) hwv n_Ln n_Sp
              have Lo_h111 : Lo h h111 := Lo_ag (my_ag.fr frh111 rfl) n_Ln (Lo_rf)
              have AgZ_h111 : my_ag LzF h h111 := AgZ_ag (my_ag.fr frh111 rfl) (my_ag.rf : my_ag LzF h h)
              have LoZ_h111 : LoZ h h111 := LoZ_ag (my_ag.fr frh111 rfl) n_Ln (LoZ_rf)
              have St5_h111 : St5 h111 := St5_ag (my_ag.fr frh111 rfl) n_Ln St5_ht110
              show wp l rho (d + 7) 49 91 [(2, 82), (0, 0), (0, 0), (0, 0), (0, 1), (0, 0)] [] h111 Q
              have xc119 := xp115 n_Cu
              have ck120 := Cu_s Cu_h111t118
              rw [show cs h111 = cs h from cs_eq (fun j => my_fr.at gh111 is_92 rfl) (my_fr.at gh111 is_82 rfl)] at ck120
              rw [show h111 82 7 = (sN (cs h) (h 82 7)) from xc119] at ck120
              refine w_iload_n gz_49_91 rfl ?_
              refine w_ifeq (t := 102) gz_49_92 rfl (fun u121 => ?_) (fun u121 => by exfalso; omega)
              refine w_iload_n gz_49_102 rfl ?_
              refine w_ifeq (t := 113) gz_49_103 rfl (fun u122 => ?_) (fun u122 => by exfalso; omega)
              refine w_iload_n gz_49_113 rfl ?_
              refine w_ifeq (t := 124) gz_49_114 rfl (fun u123 => ?_) (fun u123 => by exfalso; omega)
              refine w_iload gz_49_124 rfl ?_
              refine w_ifeq (t := 136) gz_49_126 rfl (fun u124 => by exfalso; omega) (fun u124 => ?_)
              refine w_aload_n gz_49_129 rfl ?_
              have az9 := AgZ_h111
              refine w_inv (k := 3) (as := []) (r := []) (x := 82) (ls0 := [(2, 82), (9, 0), (9, 0), (9, 0)]) gz_49_130 gm_60 rfl is_82 rd_5 rfl rfl rfl rfl rfl (c_Reader_readJoin7_f0 (d := d)  (wv := wv) (((my_fr.at frh111 is_82 rfl).trans cf).trans (by omega)) (by first | assumption | omega) (by first | assumption | omega) Ln_h111 Sp_h111 St5_h111 Al_h111t117 Cu_h111t118 (fun h125 frh125 w126 w127 xp128 xp129 xp130 Ln_h125t131 Sp_h125t132 Al_h125t133 Cu_h125t134 => ?_) (fun h135 frh135 w136 xp137 xp138 xp139 xp140 xp141 Ln_h135t142 Sp_h135t143 Al_h135t144 Cu_h135t145 => ?_))
              ·
                have gh125 : my_fr [(4, 4), (4, 5), (4, 6), (4, 7), (4, 8), (4, 9), (5, 5), (5, 6), (5, 7), (5, 8), (5, 9), (32, -1), (33, -1), (34, -1), (35, -1), (36, -1), (37, -1), (38, -1), (39, -1)] h h125 := my_fr.tr gh111 (frh125.mo rfl)
                show wp l rho (d + 7) 49 133 [(2, 82), (0, 0), (0, 0), (0, 0), (0, 1), (0, 0)] [] h125 Q
                have tE146 : cs h111 = cs h := cs_eq (fun j => my_fr.at gh111 is_92 rfl) (my_fr.at gh111 is_82 rfl)
                rw [tE146] at xp128
                have ps147 : h111 82 7 = (sN (cs h) (h 82 7)) := xc119
                rw [ps147] at xp128
                have q2 : h111 82 2 = h 82 2 := my_fr.at frh111 is_82 rfl
                have q11 : h111 (h 82 2) 1 = h (h 82 2) 1 := my_fr.at frh111 n_Ln.2.2.2.1 rfl
                have q13 : h111 (h 82 2) 3 = h (h 82 2) 3 := my_fr.at frh111 n_Ln.2.2.2.1 rfl
                have q14 : h111 (h 82 2) 4 = h (h 82 2) 4 := my_fr.at frh111 n_Ln.2.2.2.1 rfl
                have q19 : h111 (h 82 2) 9 = h (h 82 2) 9 := my_fr.at frh111 n_Ln.2.2.2.1 rfl
                have qc : h111 2 = h 2 := funext (fun j => my_fr.at frh111 is_2 rfl)
                have zJ := xp128
                simp only [q2, q11, q13, q14, q19, qc] at zJ
                have Lo_h125t148 : Lo h h125 := Lo_tr Lo_h111 xp129
                have LoZ_h125t149 : LoZ h h125 := LoZ_tr LoZ_h111 xp130
                refine w_goto (t := 140) gz_49_133 rfl ?_
                have psR : h125 82 7 = h125 82 7 := (rfl : h125 82 7 = h125 82 7)
                have npsR : cs h125 = cs h := cs_eq (fun j => my_fr.at gh125 is_92 rfl) (my_fr.at gh125 is_82 rfl)
                have c150 := (rfl : h125 82 9 = h125 82 9)
                exact w_vret gz_49_140 gm_49 (k0 h125 (gh125) (by omega) (by omega) (by first | exact pq9 | exact LoZ_h125t149 | exact Lo_h125t148 | exact ⟨st.1, st.2.1, st.2.2.2.2⟩ | exact Or.inl ⟨by omega, zF, st.2.2.1, st.2.2.2.1⟩ | exact Or.inr (Or.inr (Or.inl ⟨by omega, by omega, zC, st.2.2.1, st.2.2.2.1⟩)) | exact Or.inr (Or.inr (Or.inr (Or.inl ⟨by omega, by omega, zW, st.2.2.2.1⟩))) | exact Or.inr (Or.inr (Or.inr (Or.inr (Or.inl ⟨by omega, by omega, zJ, fun _ => st.2.2.1, st.2.2.2.1⟩)))) | exact Or.inr (Or.inr (Or.inr (Or.inr (Or.inr (Or.inl ⟨by omega, by omega, zS, st.2.2.1, st.2.2.2.1⟩))))) | exact ⟨_, _, _, Or.inl ⟨by omega, zF, rfl, rfl⟩⟩ | exact ⟨_, _, _, Or.inr (Or.inr (Or.inl ⟨by omega, by omega, zC, rfl, rfl⟩))⟩ | exact ⟨_, _, _, Or.inr (Or.inr (Or.inr (Or.inl ⟨by omega, by omega, zW, rfl⟩)))⟩ | exact ⟨_, 0, _, Or.inr (Or.inr (Or.inr (Or.inr (Or.inl ⟨by omega, by omega, zJ, fun q => absurd q (by omega), rfl⟩))))⟩ | exact ⟨_, _, _, Or.inr (Or.inr (Or.inr (Or.inr (Or.inr (Or.inl ⟨by omega, by omega, zS, rfl, rfl⟩)))))⟩ | exact ⟨0, 0, 0, Or.inr (Or.inl ⟨by omega, by omega, by omega⟩)⟩ | exact ⟨0, 0, 0, Or.inr (Or.inr (Or.inr (Or.inr (Or.inr (Or.inr ⟨by omega, by omega, by omega, by omega, by omega, by omega⟩)))))⟩ | (exfalso; omega) | omega) (by first | exact pq9 | exact LoZ_h125t149 | exact Lo_h125t148 | exact ⟨st.1, st.2.1, st.2.2.2.2⟩ | exact Or.inl ⟨by omega, zF, st.2.2.1, st.2.2.2.1⟩ | exact Or.inr (Or.inr (Or.inl ⟨by omega, by omega, zC, st.2.2.1, st.2.2.2.1⟩)) | exact Or.inr (Or.inr (Or.inr (Or.inl ⟨by omega, by omega, zW, st.2.2.2.1⟩))) | exact Or.inr (Or.inr (Or.inr (Or.inr (Or.inl ⟨by omega, by omega, zJ, fun _ => st.2.2.1, st.2.2.2.1⟩)))) | exact Or.inr (Or.inr (Or.inr (Or.inr (Or.inr (Or.inl ⟨by omega, by omega, zS, st.2.2.1, st.2.2.2.1⟩))))) | exact ⟨_, _, _, Or.inl ⟨by omega, zF, rfl, rfl⟩⟩ | exact ⟨_, _, _, Or.inr (Or.inr (Or.inl ⟨by omega, by omega, zC, rfl, rfl⟩))⟩ | exact ⟨_, _, _, Or.inr (Or.inr (Or.inr (Or.inl ⟨by omega, by omega, zW, rfl⟩)))⟩ | exact ⟨_, 0, _, Or.inr (Or.inr (Or.inr (Or.inr (Or.inl ⟨by omega, by omega, zJ, fun q => absurd q (by omega), rfl⟩))))⟩ | exact ⟨_, _, _, Or.inr (Or.inr (Or.inr (Or.inr (Or.inr (Or.inl ⟨by omega, by omega, zS, rfl, rfl⟩)))))⟩ | exact ⟨0, 0, 0, Or.inr (Or.inl ⟨by omega, by omega, by omega⟩)⟩ | exact ⟨0, 0, 0, Or.inr (Or.inr (Or.inr (Or.inr (Or.inr (Or.inr ⟨by omega, by omega, by omega, by omega, by omega, by omega⟩)))))⟩ | (exfalso; omega) | omega) (by first | exact pq9 | exact LoZ_h125t149 | exact Lo_h125t148 | exact ⟨st.1, st.2.1, st.2.2.2.2⟩ | exact Or.inl ⟨by omega, zF, st.2.2.1, st.2.2.2.1⟩ | exact Or.inr (Or.inr (Or.inl ⟨by omega, by omega, zC, st.2.2.1, st.2.2.2.1⟩)) | exact Or.inr (Or.inr (Or.inr (Or.inl ⟨by omega, by omega, zW, st.2.2.2.1⟩))) | exact Or.inr (Or.inr (Or.inr (Or.inr (Or.inl ⟨by omega, by omega, zJ, fun _ => st.2.2.1, st.2.2.2.1⟩)))) | exact Or.inr (Or.inr (Or.inr (Or.inr (Or.inr (Or.inl ⟨by omega, by omega, zS, st.2.2.1, st.2.2.2.1⟩))))) | exact ⟨_, _, _, Or.inl ⟨by omega, zF, rfl, rfl⟩⟩ | exact ⟨_, _, _, Or.inr (Or.inr (Or.inl ⟨by omega, by omega, zC, rfl, rfl⟩))⟩ | exact ⟨_, _, _, Or.inr (Or.inr (Or.inr (Or.inl ⟨by omega, by omega, zW, rfl⟩)))⟩ | exact ⟨_, 0, _, Or.inr (Or.inr (Or.inr (Or.inr (Or.inl ⟨by omega, by omega, zJ, fun q => absurd q (by omega), rfl⟩))))⟩ | exact ⟨_, _, _, Or.inr (Or.inr (Or.inr (Or.inr (Or.inr (Or.inl ⟨by omega, by omega, zS, rfl, rfl⟩)))))⟩ | exact ⟨0, 0, 0, Or.inr (Or.inl ⟨by omega, by omega, by omega⟩)⟩ | exact ⟨0, 0, 0, Or.inr (Or.inr (Or.inr (Or.inr (Or.inr (Or.inr ⟨by omega, by omega, by omega, by omega, by omega, by omega⟩)))))⟩ | (exfalso; omega) | omega) Ln_h125t131 Sp_h125t132 Al_h125t133 Cu_h125t134)
              ·
                have gh135 : my_fr [(4, 4), (4, 5), (4, 6), (4, 7), (4, 8), (4, 9), (5, 5), (5, 6), (5, 7), (5, 8), (5, 9), (32, -1), (33, -1), (34, -1), (35, -1), (36, -1), (37, -1), (38, -1), (39, -1)] h h135 := my_fr.tr gh111 (frh135.mo rfl)
                show wp l rho (d + 7) 49 133 [(2, 82), (0, 0), (0, 0), (0, 0), (0, 1), (0, 0)] [] h135 Q
                have tE151 : cs h111 = cs h := cs_eq (fun j => my_fr.at gh111 is_92 rfl) (my_fr.at gh111 is_82 rfl)
                rw [tE151] at xp137
                have ps152 : h111 82 7 = (sN (cs h) (h 82 7)) := xc119
                rw [ps152] at xp137
                rw [tE151] at xp138
                rw [ps152] at xp138
                rw [tE151] at xp140
                rw [ps152] at xp140
                have q2 : h111 82 2 = h 82 2 := my_fr.at frh111 is_82 rfl
                have q11 : h111 (h 82 2) 1 = h (h 82 2) 1 := my_fr.at frh111 n_Ln.2.2.2.1 rfl
                have q13 : h111 (h 82 2) 3 = h (h 82 2) 3 := my_fr.at frh111 n_Ln.2.2.2.1 rfl
                have q14 : h111 (h 82 2) 4 = h (h 82 2) 4 := my_fr.at frh111 n_Ln.2.2.2.1 rfl
                have q19 : h111 (h 82 2) 9 = h (h 82 2) 9 := my_fr.at frh111 n_Ln.2.2.2.1 rfl
                have qc : h111 2 = h 2 := funext (fun j => my_fr.at frh111 is_2 rfl)
                have zJ := xp137
                simp only [q2, q11, q13, q14, q19, qc] at zJ
                have st := xp138
                unfold Std at st
                simp only [q2, q11, q13, q14, q19, qc] at st
                have Lo_h135t153 : Lo h h135 := Lo_tr Lo_h111 xp139
                have z9 := xp140
                try simp only [q2, q11, q13, q14, q19, qc] at z9
                have pq9 : PnQ h h135 := PnQ_join (by omega) az9 q2 n_Ln.2.2.2.1 z9
                have LoZ_h135t154 : LoZ h h135 := LoZ_tr LoZ_h111 xp141
                refine w_goto (t := 140) gz_49_133 rfl ?_
                have psR : h135 82 7 = h135 82 7 := (rfl : h135 82 7 = h135 82 7)
                have npsR : cs h135 = cs h := cs_eq (fun j => my_fr.at gh135 is_92 rfl) (my_fr.at gh135 is_82 rfl)
                have c155 := w136
                exact w_vret gz_49_140 gm_49 (k1 h135 (gh135) (by omega) (by first | exact pq9 | exact LoZ_h135t154 | exact Lo_h135t153 | exact ⟨st.1, st.2.1, st.2.2.2.2⟩ | exact Or.inl ⟨by omega, zF, st.2.2.1, st.2.2.2.1⟩ | exact Or.inr (Or.inr (Or.inl ⟨by omega, by omega, zC, st.2.2.1, st.2.2.2.1⟩)) | exact Or.inr (Or.inr (Or.inr (Or.inl ⟨by omega, by omega, zW, st.2.2.2.1⟩))) | exact Or.inr (Or.inr (Or.inr (Or.inr (Or.inl ⟨by omega, by omega, zJ, fun _ => st.2.2.1, st.2.2.2.1⟩)))) | exact Or.inr (Or.inr (Or.inr (Or.inr (Or.inr (Or.inl ⟨by omega, by omega, zS, st.2.2.1, st.2.2.2.1⟩))))) | exact ⟨_, _, _, Or.inl ⟨by omega, zF, rfl, rfl⟩⟩ | exact ⟨_, _, _, Or.inr (Or.inr (Or.inl ⟨by omega, by omega, zC, rfl, rfl⟩))⟩ | exact ⟨_, _, _, Or.inr (Or.inr (Or.inr (Or.inl ⟨by omega, by omega, zW, rfl⟩)))⟩ | exact ⟨_, 0, _, Or.inr (Or.inr (Or.inr (Or.inr (Or.inl ⟨by omega, by omega, zJ, fun q => absurd q (by omega), rfl⟩))))⟩ | exact ⟨_, _, _, Or.inr (Or.inr (Or.inr (Or.inr (Or.inr (Or.inl ⟨by omega, by omega, zS, rfl, rfl⟩)))))⟩ | exact ⟨0, 0, 0, Or.inr (Or.inl ⟨by omega, by omega, by omega⟩)⟩ | exact ⟨0, 0, 0, Or.inr (Or.inr (Or.inr (Or.inr (Or.inr (Or.inr ⟨by omega, by omega, by omega, by omega, by omega, by omega⟩)))))⟩ | (exfalso; omega) | omega) (by first | exact pq9 | exact LoZ_h135t154 | exact Lo_h135t153 | exact ⟨st.1, st.2.1, st.2.2.2.2⟩ | exact Or.inl ⟨by omega, zF, st.2.2.1, st.2.2.2.1⟩ | exact Or.inr (Or.inr (Or.inl ⟨by omega, by omega, zC, st.2.2.1, st.2.2.2.1⟩)) | exact Or.inr (Or.inr (Or.inr (Or.inl ⟨by omega, by omega, zW, st.2.2.2.1⟩))) | exact Or.inr (Or.inr (Or.inr (Or.inr (Or.inl ⟨by omega, by omega, zJ, fun _ => st.2.2.1, st.2.2.2.1⟩)))) | exact Or.inr (Or.inr (Or.inr (Or.inr (Or.inr (Or.inl ⟨by omega, by omega, zS, st.2.2.1, st.2.2.2.1⟩))))) | exact ⟨_, _, _, Or.inl ⟨by omega, zF, rfl, rfl⟩⟩ | exact ⟨_, _, _, Or.inr (Or.inr (Or.inl ⟨by omega, by omega, zC, rfl, rfl⟩))⟩ | exact ⟨_, _, _, Or.inr (Or.inr (Or.inr (Or.inl ⟨by omega, by omega, zW, rfl⟩)))⟩ | exact ⟨_, 0, _, Or.inr (Or.inr (Or.inr (Or.inr (Or.inl ⟨by omega, by omega, zJ, fun q => absurd q (by omega), rfl⟩))))⟩ | exact ⟨_, _, _, Or.inr (Or.inr (Or.inr (Or.inr (Or.inr (Or.inl ⟨by omega, by omega, zS, rfl, rfl⟩)))))⟩ | exact ⟨0, 0, 0, Or.inr (Or.inl ⟨by omega, by omega, by omega⟩)⟩ | exact ⟨0, 0, 0, Or.inr (Or.inr (Or.inr (Or.inr (Or.inr (Or.inr ⟨by omega, by omega, by omega, by omega, by omega, by omega⟩)))))⟩ | (exfalso; omega) | omega) (by first | exact pq9 | exact LoZ_h135t154 | exact Lo_h135t153 | exact ⟨st.1, st.2.1, st.2.2.2.2⟩ | exact Or.inl ⟨by omega, zF, st.2.2.1, st.2.2.2.1⟩ | exact Or.inr (Or.inr (Or.inl ⟨by omega, by omega, zC, st.2.2.1, st.2.2.2.1⟩)) | exact Or.inr (Or.inr (Or.inr (Or.inl ⟨by omega, by omega, zW, st.2.2.2.1⟩))) | exact Or.inr (Or.inr (Or.inr (Or.inr (Or.inl ⟨by omega, by omega, zJ, fun _ => st.2.2.1, st.2.2.2.1⟩)))) | exact Or.inr (Or.inr (Or.inr (Or.inr (Or.inr (Or.inl ⟨by omega, by omega, zS, st.2.2.1, st.2.2.2.1⟩))))) | exact ⟨_, _, _, Or.inl ⟨by omega, zF, rfl, rfl⟩⟩ | exact ⟨_, _, _, Or.inr (Or.inr (Or.inl ⟨by omega, by omega, zC, rfl, rfl⟩))⟩ | exact ⟨_, _, _, Or.inr (Or.inr (Or.inr (Or.inl ⟨by omega, by omega, zW, rfl⟩)))⟩ | exact ⟨_, 0, _, Or.inr (Or.inr (Or.inr (Or.inr (Or.inl ⟨by omega, by omega, zJ, fun q => absurd q (by omega), rfl⟩))))⟩ | exact ⟨_, _, _, Or.inr (Or.inr (Or.inr (Or.inr (Or.inr (Or.inl ⟨by omega, by omega, zS, rfl, rfl⟩)))))⟩ | exact ⟨0, 0, 0, Or.inr (Or.inl ⟨by omega, by omega, by omega⟩)⟩ | exact ⟨0, 0, 0, Or.inr (Or.inr (Or.inr (Or.inr (Or.inr (Or.inr ⟨by omega, by omega, by omega, by omega, by omega, by omega⟩)))))⟩ | (exfalso; omega) | omega) (by first | exact pq9 | exact LoZ_h135t154 | exact Lo_h135t153 | exact ⟨st.1, st.2.1, st.2.2.2.2⟩ | exact Or.inl ⟨by omega, zF, st.2.2.1, st.2.2.2.1⟩ | exact Or.inr (Or.inr (Or.inl ⟨by omega, by omega, zC, st.2.2.1, st.2.2.2.1⟩)) | exact Or.inr (Or.inr (Or.inr (Or.inl ⟨by omega, by omega, zW, st.2.2.2.1⟩))) | exact Or.inr (Or.inr (Or.inr (Or.inr (Or.inl ⟨by omega, by omega, zJ, fun _ => st.2.2.1, st.2.2.2.1⟩)))) | exact Or.inr (Or.inr (Or.inr (Or.inr (Or.inr (Or.inl ⟨by omega, by omega, zS, st.2.2.1, st.2.2.2.1⟩))))) | exact ⟨_, _, _, Or.inl ⟨by omega, zF, rfl, rfl⟩⟩ | exact ⟨_, _, _, Or.inr (Or.inr (Or.inl ⟨by omega, by omega, zC, rfl, rfl⟩))⟩ | exact ⟨_, _, _, Or.inr (Or.inr (Or.inr (Or.inl ⟨by omega, by omega, zW, rfl⟩)))⟩ | exact ⟨_, 0, _, Or.inr (Or.inr (Or.inr (Or.inr (Or.inl ⟨by omega, by omega, zJ, fun q => absurd q (by omega), rfl⟩))))⟩ | exact ⟨_, _, _, Or.inr (Or.inr (Or.inr (Or.inr (Or.inr (Or.inl ⟨by omega, by omega, zS, rfl, rfl⟩)))))⟩ | exact ⟨0, 0, 0, Or.inr (Or.inl ⟨by omega, by omega, by omega⟩)⟩ | exact ⟨0, 0, 0, Or.inr (Or.inr (Or.inr (Or.inr (Or.inr (Or.inr ⟨by omega, by omega, by omega, by omega, by omega, by omega⟩)))))⟩ | (exfalso; omega) | omega) (by first | exact pq9 | exact LoZ_h135t154 | exact Lo_h135t153 | exact ⟨st.1, st.2.1, st.2.2.2.2⟩ | exact Or.inl ⟨by omega, zF, st.2.2.1, st.2.2.2.1⟩ | exact Or.inr (Or.inr (Or.inl ⟨by omega, by omega, zC, st.2.2.1, st.2.2.2.1⟩)) | exact Or.inr (Or.inr (Or.inr (Or.inl ⟨by omega, by omega, zW, st.2.2.2.1⟩))) | exact Or.inr (Or.inr (Or.inr (Or.inr (Or.inl ⟨by omega, by omega, zJ, fun _ => st.2.2.1, st.2.2.2.1⟩)))) | exact Or.inr (Or.inr (Or.inr (Or.inr (Or.inr (Or.inl ⟨by omega, by omega, zS, st.2.2.1, st.2.2.2.1⟩))))) | exact ⟨_, _, _, Or.inl ⟨by omega, zF, rfl, rfl⟩⟩ | exact ⟨_, _, _, Or.inr (Or.inr (Or.inl ⟨by omega, by omega, zC, rfl, rfl⟩))⟩ | exact ⟨_, _, _, Or.inr (Or.inr (Or.inr (Or.inl ⟨by omega, by omega, zW, rfl⟩)))⟩ | exact ⟨_, 0, _, Or.inr (Or.inr (Or.inr (Or.inr (Or.inl ⟨by omega, by omega, zJ, fun q => absurd q (by omega), rfl⟩))))⟩ | exact ⟨_, _, _, Or.inr (Or.inr (Or.inr (Or.inr (Or.inr (Or.inl ⟨by omega, by omega, zS, rfl, rfl⟩)))))⟩ | exact ⟨0, 0, 0, Or.inr (Or.inl ⟨by omega, by omega, by omega⟩)⟩ | exact ⟨0, 0, 0, Or.inr (Or.inr (Or.inr (Or.inr (Or.inr (Or.inr ⟨by omega, by omega, by omega, by omega, by omega, by omega⟩)))))⟩ | (exfalso; omega) | omega) Ln_h135t142 Sp_h135t143 Al_h135t144 Cu_h135t145)
            ·
              refine w_aload_n gz_49_81 rfl ?_
              refine w_iconst gz_49_82 (by decide) ?_
              refine w_inv (k := 0) (as := [(0, 5)]) (r := []) (x := 82) (ls0 := [(2, 82), (0, 5)]) gz_49_83 gm_42 rfl is_82 rd_5 rfl rfl rfl rfl rfl ?_
              refine w_aload_n gz_42_0 rfl ?_
              refine v_getI (j := 9) gz_42_1 rfl is_82 rd_5 rfl (fun v156 ev156 pv156 qv156 => ?_)
              have zv156 := ev156.trans cf
              refine w_ifne (t := 20) gz_42_4 rfl (fun u157 => by exfalso; omega) (fun u157 => ?_)
              refine w_aload_n gz_42_7 rfl ?_
              refine w_iload_n gz_42_8 rfl ?_
              refine w_bipush gz_42_9 (by decide) ?_
              refine w_aload_n gz_42_11 rfl ?_
              refine v_getI (j := 7) gz_42_12 rfl is_82 rd_5 rfl (fun v158 ev158 pv158 qv158 => ?_)
              refine w_imul gz_42_15 ⟨by omega, by omega⟩ ?_
              refine w_iadd gz_42_16 ⟨by omega, by omega⟩ ?_
              refine v_putI (j := 9) gz_42_17 rfl is_82 rd_5 rfl (by omega) (by omega) rfl (fun h159 fh159 => ?_)
              have gh159 : my_fr [(4, 4), (4, 5), (4, 6), (4, 7), (4, 8), (4, 9), (5, 5), (5, 6), (5, 7), (5, 8), (5, 9), (32, -1), (33, -1), (34, -1), (35, -1), (36, -1), (37, -1), (38, -1), (39, -1)] h h159 := my_fr.up my_fr.rf is_82 fh159 rfl
              have Ln_h159 : Ln h159 := Ln_ag (my_ag.up fh159 is_82 rfl) n_Ln
              have Sp_h159 : Sp h159 wv := Sp_ag (my_ag.up fh159 is_82 rfl) hwv n_Ln n_Sp
              have Al_h159 : Al h159 := Al_ag (my_ag.up fh159 is_82 rfl) n_Al
              have Cu_h159 : Cu h159 := Cu_ag (my_ag.up fh159 is_82 rfl) n_Cu
              have Lo_h159 : Lo h h159 := Lo_ag (my_ag.up fh159 is_82 rfl) n_Ln (Lo_rf)
              have AgZ_h159 : my_ag LzF h h159 := AgZ_ag (my_ag.up fh159 is_82 rfl) (my_ag.rf : my_ag LzF h h)
              have LoZ_h159 : LoZ h h159 := LoZ_ag (my_ag.up fh159 is_82 rfl) n_Ln (LoZ_rf)
              refine w_vret gz_42_20 gm_42 ?_
              show wp l rho (d + 7) 49 86 [(2, 82), (0, 0), (0, 0), (0, 0), (0, 1), (0, 0)] [] h159 Q
              have psR : h159 82 7 = h 82 7 := ((my_up_fld fh159 (by decide)).trans (rfl : h 82 7 = h 82 7))
              have npsR : cs h159 = cs h := cs_eq (fun j => my_fr.at gh159 is_92 rfl) (my_fr.at gh159 is_82 rfl)
              have c160 := (my_up_self fh159)
              exact w_vret gz_49_86 gm_49 (k0 h159 (gh159) (by omega) (by omega) (by first | exact pq9 | exact LoZ_h159 | exact Lo_h159 | exact ⟨st.1, st.2.1, st.2.2.2.2⟩ | exact Or.inl ⟨by omega, zF, st.2.2.1, st.2.2.2.1⟩ | exact Or.inr (Or.inr (Or.inl ⟨by omega, by omega, zC, st.2.2.1, st.2.2.2.1⟩)) | exact Or.inr (Or.inr (Or.inr (Or.inl ⟨by omega, by omega, zW, st.2.2.2.1⟩))) | exact Or.inr (Or.inr (Or.inr (Or.inr (Or.inl ⟨by omega, by omega, zJ, fun _ => st.2.2.1, st.2.2.2.1⟩)))) | exact Or.inr (Or.inr (Or.inr (Or.inr (Or.inr (Or.inl ⟨by omega, by omega, zS, st.2.2.1, st.2.2.2.1⟩))))) | exact ⟨_, _, _, Or.inl ⟨by omega, zF, rfl, rfl⟩⟩ | exact ⟨_, _, _, Or.inr (Or.inr (Or.inl ⟨by omega, by omega, zC, rfl, rfl⟩))⟩ | exact ⟨_, _, _, Or.inr (Or.inr (Or.inr (Or.inl ⟨by omega, by omega, zW, rfl⟩)))⟩ | exact ⟨_, 0, _, Or.inr (Or.inr (Or.inr (Or.inr (Or.inl ⟨by omega, by omega, zJ, fun q => absurd q (by omega), rfl⟩))))⟩ | exact ⟨_, _, _, Or.inr (Or.inr (Or.inr (Or.inr (Or.inr (Or.inl ⟨by omega, by omega, zS, rfl, rfl⟩)))))⟩ | exact ⟨0, 0, 0, Or.inr (Or.inl ⟨by omega, by omega, by omega⟩)⟩ | exact ⟨0, 0, 0, Or.inr (Or.inr (Or.inr (Or.inr (Or.inr (Or.inr ⟨by omega, by omega, by omega, by omega, by omega, by omega⟩)))))⟩ | (exfalso; omega) | omega) (by first | exact pq9 | exact LoZ_h159 | exact Lo_h159 | exact ⟨st.1, st.2.1, st.2.2.2.2⟩ | exact Or.inl ⟨by omega, zF, st.2.2.1, st.2.2.2.1⟩ | exact Or.inr (Or.inr (Or.inl ⟨by omega, by omega, zC, st.2.2.1, st.2.2.2.1⟩)) | exact Or.inr (Or.inr (Or.inr (Or.inl ⟨by omega, by omega, zW, st.2.2.2.1⟩))) | exact Or.inr (Or.inr (Or.inr (Or.inr (Or.inl ⟨by omega, by omega, zJ, fun _ => st.2.2.1, st.2.2.2.1⟩)))) | exact Or.inr (Or.inr (Or.inr (Or.inr (Or.inr (Or.inl ⟨by omega, by omega, zS, st.2.2.1, st.2.2.2.1⟩))))) | exact ⟨_, _, _, Or.inl ⟨by omega, zF, rfl, rfl⟩⟩ | exact ⟨_, _, _, Or.inr (Or.inr (Or.inl ⟨by omega, by omega, zC, rfl, rfl⟩))⟩ | exact ⟨_, _, _, Or.inr (Or.inr (Or.inr (Or.inl ⟨by omega, by omega, zW, rfl⟩)))⟩ | exact ⟨_, 0, _, Or.inr (Or.inr (Or.inr (Or.inr (Or.inl ⟨by omega, by omega, zJ, fun q => absurd q (by omega), rfl⟩))))⟩ | exact ⟨_, _, _, Or.inr (Or.inr (Or.inr (Or.inr (Or.inr (Or.inl ⟨by omega, by omega, zS, rfl, rfl⟩)))))⟩ | exact ⟨0, 0, 0, Or.inr (Or.inl ⟨by omega, by omega, by omega⟩)⟩ | exact ⟨0, 0, 0, Or.inr (Or.inr (Or.inr (Or.inr (Or.inr (Or.inr ⟨by omega, by omega, by omega, by omega, by omega, by omega⟩)))))⟩ | (exfalso; omega) | omega) (by first | exact pq9 | exact LoZ_h159 | exact Lo_h159 | exact ⟨st.1, st.2.1, st.2.2.2.2⟩ | exact Or.inl ⟨by omega, zF, st.2.2.1, st.2.2.2.1⟩ | exact Or.inr (Or.inr (Or.inl ⟨by omega, by omega, zC, st.2.2.1, st.2.2.2.1⟩)) | exact Or.inr (Or.inr (Or.inr (Or.inl ⟨by omega, by omega, zW, st.2.2.2.1⟩))) | exact Or.inr (Or.inr (Or.inr (Or.inr (Or.inl ⟨by omega, by omega, zJ, fun _ => st.2.2.1, st.2.2.2.1⟩)))) | exact Or.inr (Or.inr (Or.inr (Or.inr (Or.inr (Or.inl ⟨by omega, by omega, zS, st.2.2.1, st.2.2.2.1⟩))))) | exact ⟨_, _, _, Or.inl ⟨by omega, zF, rfl, rfl⟩⟩ | exact ⟨_, _, _, Or.inr (Or.inr (Or.inl ⟨by omega, by omega, zC, rfl, rfl⟩))⟩ | exact ⟨_, _, _, Or.inr (Or.inr (Or.inr (Or.inl ⟨by omega, by omega, zW, rfl⟩)))⟩ | exact ⟨_, 0, _, Or.inr (Or.inr (Or.inr (Or.inr (Or.inl ⟨by omega, by omega, zJ, fun q => absurd q (by omega), rfl⟩))))⟩ | exact ⟨_, _, _, Or.inr (Or.inr (Or.inr (Or.inr (Or.inr (Or.inl ⟨by omega, by omega, zS, rfl, rfl⟩)))))⟩ | exact ⟨0, 0, 0, Or.inr (Or.inl ⟨by omega, by omega, by omega⟩)⟩ | exact ⟨0, 0, 0, Or.inr (Or.inr (Or.inr (Or.inr (Or.inr (Or.inr ⟨by omega, by omega, by omega, by omega, by omega, by omega⟩)))))⟩ | (exfalso; omega) | omega) Ln_h159 Sp_h159 Al_h159 Cu_h159)
          ·
            show wp l rho (d + 7) 49 35 [(2, 82), (0, 0), (0, 0), (0, 0), (0, 1), (9, 0)] [(0, 1)] h Q
            rw [show wc ((8 : Nat) : Int) = 26801 from by decide] at xp101
            exfalso; omega
      ·
        show wp l rho (d + 7) 49 20 [(2, 82), (0, 0), (0, 0), (9, 0), (9, 0), (9, 0)] [(0, 1)] h Q
        rw [show wc ((6 : Nat) : Int) = 8422 from by decide] at xp16
        refine w_istore_n (ls' := [(2, 82), (0, 0), (0, 0), (0, 1), (9, 0), (9, 0)]) gz_49_20 gm_49 rfl rfl rfl ?_
        refine w_aload_n gz_49_21 rfl ?_
        refine w_ldcS gz_49_22 (by decide) ?_
        refine w_inv (k := 1) (as := [(3, ((7 : Nat) : Int))]) (r := []) (x := 82) (ls0 := [(2, 82), (3, ((7 : Nat) : Int)), (9, 0)]) gz_49_24 gm_41 rfl is_82 rd_5 rfl rfl rfl rfl rfl (c_Reader_isWord9_f0 (d := (d + 2)) (x1 := ((7 : Nat) : Int)) (by decide) (cf.trans (by omega)) n_Cu (fun w161 xp162 => ?_) (fun w163 w164 xp165 => ?_))
        ·
          show wp l rho (d + 7) 49 27 [(2, 82), (0, 0), (0, 0), (0, 1), (9, 0), (9, 0)] [(0, 0)] h Q
          rw [show wc ((7 : Nat) : Int) = 527412 from by decide] at xp162
          refine w_istore (ls' := [(2, 82), (0, 0), (0, 0), (0, 1), (0, 0), (9, 0)]) gz_49_27 gm_49 rfl rfl rfl ?_
          refine w_aload_n gz_49_29 rfl ?_
          refine w_ldcS gz_49_30 (by decide) ?_
          refine w_inv (k := 1) (as := [(3, ((8 : Nat) : Int))]) (r := []) (x := 82) (ls0 := [(2, 82), (3, ((8 : Nat) : Int)), (9, 0)]) gz_49_32 gm_41 rfl is_82 rd_5 rfl rfl rfl rfl rfl (c_Reader_isWord9_f0 (d := (d + 2)) (x1 := ((8 : Nat) : Int)) (by decide) (cf.trans (by omega)) n_Cu (fun w166 xp167 => ?_) (fun w168 w169 xp170 => ?_))
          ·
            show wp l rho (d + 7) 49 35 [(2, 82), (0, 0), (0, 0), (0, 1), (0, 0), (9, 0)] [(0, 0)] h Q
            rw [show wc ((8 : Nat) : Int) = 26801 from by decide] at xp167
            refine w_istore (ls' := [(2, 82), (0, 0), (0, 0), (0, 1), (0, 0), (0, 0)]) gz_49_35 gm_49 rfl rfl rfl ?_
            refine w_iload_n gz_49_37 rfl ?_
            refine w_ifne (t := 65) gz_49_38 rfl (fun u171 => by exfalso; omega) (fun u171 => ?_)
            refine w_iload_n gz_49_41 rfl ?_
            refine w_ifne (t := 65) gz_49_42 rfl (fun u172 => by exfalso; omega) (fun u172 => ?_)
            refine w_iload_n gz_49_45 rfl ?_
            refine w_ifne (t := 65) gz_49_46 rfl (fun u173 => ?_) (fun u173 => by exfalso; omega)
            refine w_iload_n gz_49_65 rfl ?_
            refine w_ifne (t := 87) gz_49_66 rfl (fun u174 => by exfalso; omega) (fun u174 => ?_)
            refine w_aload_n gz_49_69 rfl ?_
            refine v_getR (j := 2) gz_49_70 rfl is_82 rd_5 rfl (fun v175 ev175 tv175 => ?_)
            have sE73 : v175 = h 82 2 := by first | assumption | omega
            refine v_getI (j := 9) gz_49_73 rfl tv175 rd_4 rfl (fun v176 ev176 pv176 qv176 => ?_)
            have c76 : v176 = h (h 82 2) 9 := by rw [← sE73]; omega
            refine w_bipush gz_49_76 (by decide) ?_
            refine w_iclt (t := 87) gz_49_78 rfl (fun u177 => ?_) (fun u177 => ?_)
            ·
              have St5_ht178 : St5 h := ⟨by subst_vars; omega, by subst_vars; omega⟩
              refine w_aload_n gz_49_87 rfl ?_
              refine w_inv (k := 2) (as := []) (r := []) (x := 82) (ls0 := [(2, 82), (9, 0), (9, 0)]) gz_49_88 gm_37 rfl is_82 rd_5 rfl rfl rfl rfl rfl (c_Reader_nextToken9_f0 (d := (d + 5))  (cf.trans (by omega)) n_Al (fun h179 frh179 w180 w181 w182 xp183 xp184 Al_h179t185 Cu_h179t186 => ?_))
              have gh179 : my_fr [(4, 4), (4, 5), (4, 6), (4, 7), (4, 8), (4, 9), (5, 5), (5, 6), (5, 7), (5, 8), (5, 9), (32, -1), (33, -1), (34, -1), (35, -1), (36, -1), (37, -1), (38, -1), (39, -1)] h h179 := my_fr.tr my_fr.rf (frh179.mo rfl)
              have Ln_h179 : Ln h179 := Ln_ag (my_ag.fr frh179 rfl) n_Ln
              have Sp_h179 : Sp h179 wv := Sp_ag (my_ag.fr frh179 rfl) hwv n_Ln n_Sp
              have Lo_h179 : Lo h h179 := Lo_ag (my_ag.fr frh179 rfl) n_Ln (Lo_rf)
              have AgZ_h179 : my_ag LzF h h179 := AgZ_ag (my_ag.fr frh179 rfl) (my_ag.rf : my_ag LzF h h)
              have LoZ_h179 : LoZ h h179 := LoZ_ag (my_ag.fr frh179 rfl) n_Ln (LoZ_rf)
              have St5_h179 : St5 h179 := St5_ag (my_ag.fr frh179 rfl) n_Ln St5_ht178
              show wp l rho (d + 7) 49 91 [(2, 82), (0, 0), (0, 0), (0, 1), (0, 0), (0, 0)] [] h179 Q
              have xc187 := xp183 n_Cu
              have ck188 := Cu_s Cu_h179t186
              rw [show cs h179 = cs h from cs_eq (fun j => my_fr.at gh179 is_92 rfl) (my_fr.at gh179 is_82 rfl)] at ck188
              rw [show h179 82 7 = (sN (cs h) (h 82 7)) from xc187] at ck188
              refine w_iload_n gz_49_91 rfl ?_
              refine w_ifeq (t := 102) gz_49_92 rfl (fun u189 => ?_) (fun u189 => by exfalso; omega)
              refine w_iload_n gz_49_102 rfl ?_
              refine w_ifeq (t := 113) gz_49_103 rfl (fun u190 => ?_) (fun u190 => by exfalso; omega)
              refine w_iload_n gz_49_113 rfl ?_
              refine w_ifeq (t := 124) gz_49_114 rfl (fun u191 => by exfalso; omega) (fun u191 => ?_)
              refine w_aload_n gz_49_117 rfl ?_
              have az9 := AgZ_h179
              refine w_inv (k := 2) (as := []) (r := []) (x := 82) (ls0 := [(2, 82), (9, 0), (9, 0)]) gz_49_118 gm_56 rfl is_82 rd_5 rfl rfl rfl rfl rfl (c_Reader_readFew7_f0 (d := (d + 4))  (wv := wv) (((my_fr.at frh179 is_82 rfl).trans cf).trans (by omega)) (by first | assumption | omega) (by first | assumption | omega) Ln_h179 Sp_h179 St5_h179 Al_h179t185 Cu_h179t186 (fun h192 frh192 w193 w194 xp195 xp196 xp197 Ln_h192t198 Sp_h192t199 Al_h192t200 Cu_h192t201 => ?_) (fun h202 frh202 w203 xp204 xp205 xp206 xp207 xp208 Ln_h202t209 Sp_h202t210 Al_h202t211 Cu_h202t212 => ?_))
              ·
                have gh192 : my_fr [(4, 4), (4, 5), (4, 6), (4, 7), (4, 8), (4, 9), (5, 5), (5, 6), (5, 7), (5, 8), (5, 9), (32, -1), (33, -1), (34, -1), (35, -1), (36, -1), (37, -1), (38, -1), (39, -1)] h h192 := my_fr.tr gh179 (frh192.mo rfl)
                show wp l rho (d + 7) 49 121 [(2, 82), (0, 0), (0, 0), (0, 1), (0, 0), (0, 0)] [] h192 Q
                have tE213 : cs h179 = cs h := cs_eq (fun j => my_fr.at gh179 is_92 rfl) (my_fr.at gh179 is_82 rfl)
                rw [tE213] at xp195
                have ps214 : h179 82 7 = (sN (cs h) (h 82 7)) := xc187
                rw [ps214] at xp195
                have q2 : h179 82 2 = h 82 2 := my_fr.at frh179 is_82 rfl
                have q11 : h179 (h 82 2) 1 = h (h 82 2) 1 := my_fr.at frh179 n_Ln.2.2.2.1 rfl
                have q13 : h179 (h 82 2) 3 = h (h 82 2) 3 := my_fr.at frh179 n_Ln.2.2.2.1 rfl
                have q14 : h179 (h 82 2) 4 = h (h 82 2) 4 := my_fr.at frh179 n_Ln.2.2.2.1 rfl
                have q19 : h179 (h 82 2) 9 = h (h 82 2) 9 := my_fr.at frh179 n_Ln.2.2.2.1 rfl
                have qc : h179 2 = h 2 := funext (fun j => my_fr.at frh179 is_2 rfl)
                have zW := xp195
                simp only [q2, q11, q13, q14, q19, qc] at zW
                have Lo_h192t215 : Lo h h192 := Lo_tr Lo_h179 xp196
                have LoZ_h192t216 : LoZ h h192 := LoZ_tr LoZ_h179 xp197
                refine w_goto (t := 140) gz_49_121 rfl ?_
                have psR : h192 82 7 = h192 82 7 := (rfl : h192 82 7 = h192 82 7)
                have npsR : cs h192 = cs h := cs_eq (fun j => my_fr.at gh192 is_92 rfl) (my_fr.at gh192 is_82 rfl)
                have c217 := (rfl : h192 82 9 = h192 82 9)
                exact w_vret gz_49_140 gm_49 (k0 h192 (gh192) (by omega) (by omega) (by first | exact pq9 | exact LoZ_h192t216 | exact Lo_h192t215 | exact ⟨st.1, st.2.1, st.2.2.2.2⟩ | exact Or.inl ⟨by omega, zF, st.2.2.1, st.2.2.2.1⟩ | exact Or.inr (Or.inr (Or.inl ⟨by omega, by omega, zC, st.2.2.1, st.2.2.2.1⟩)) | exact Or.inr (Or.inr (Or.inr (Or.inl ⟨by omega, by omega, zW, st.2.2.2.1⟩))) | exact Or.inr (Or.inr (Or.inr (Or.inr (Or.inl ⟨by omega, by omega, zJ, fun _ => st.2.2.1, st.2.2.2.1⟩)))) | exact Or.inr (Or.inr (Or.inr (Or.inr (Or.inr (Or.inl ⟨by omega, by omega, zS, st.2.2.1, st.2.2.2.1⟩))))) | exact ⟨_, _, _, Or.inl ⟨by omega, zF, rfl, rfl⟩⟩ | exact ⟨_, _, _, Or.inr (Or.inr (Or.inl ⟨by omega, by omega, zC, rfl, rfl⟩))⟩ | exact ⟨_, _, _, Or.inr (Or.inr (Or.inr (Or.inl ⟨by omega, by omega, zW, rfl⟩)))⟩ | exact ⟨_, 0, _, Or.inr (Or.inr (Or.inr (Or.inr (Or.inl ⟨by omega, by omega, zJ, fun q => absurd q (by omega), rfl⟩))))⟩ | exact ⟨_, _, _, Or.inr (Or.inr (Or.inr (Or.inr (Or.inr (Or.inl ⟨by omega, by omega, zS, rfl, rfl⟩)))))⟩ | exact ⟨0, 0, 0, Or.inr (Or.inl ⟨by omega, by omega, by omega⟩)⟩ | exact ⟨0, 0, 0, Or.inr (Or.inr (Or.inr (Or.inr (Or.inr (Or.inr ⟨by omega, by omega, by omega, by omega, by omega, by omega⟩)))))⟩ | (exfalso; omega) | omega) (by first | exact pq9 | exact LoZ_h192t216 | exact Lo_h192t215 | exact ⟨st.1, st.2.1, st.2.2.2.2⟩ | exact Or.inl ⟨by omega, zF, st.2.2.1, st.2.2.2.1⟩ | exact Or.inr (Or.inr (Or.inl ⟨by omega, by omega, zC, st.2.2.1, st.2.2.2.1⟩)) | exact Or.inr (Or.inr (Or.inr (Or.inl ⟨by omega, by omega, zW, st.2.2.2.1⟩))) | exact Or.inr (Or.inr (Or.inr (Or.inr (Or.inl ⟨by omega, by omega, zJ, fun _ => st.2.2.1, st.2.2.2.1⟩)))) | exact Or.inr (Or.inr (Or.inr (Or.inr (Or.inr (Or.inl ⟨by omega, by omega, zS, st.2.2.1, st.2.2.2.1⟩))))) | exact ⟨_, _, _, Or.inl ⟨by omega, zF, rfl, rfl⟩⟩ | exact ⟨_, _, _, Or.inr (Or.inr (Or.inl ⟨by omega, by omega, zC, rfl, rfl⟩))⟩ | exact ⟨_, _, _, Or.inr (Or.inr (Or.inr (Or.inl ⟨by omega, by omega, zW, rfl⟩)))⟩ | exact ⟨_, 0, _, Or.inr (Or.inr (Or.inr (Or.inr (Or.inl ⟨by omega, by omega, zJ, fun q => absurd q (by omega), rfl⟩))))⟩ | exact ⟨_, _, _, Or.inr (Or.inr (Or.inr (Or.inr (Or.inr (Or.inl ⟨by omega, by omega, zS, rfl, rfl⟩)))))⟩ | exact ⟨0, 0, 0, Or.inr (Or.inl ⟨by omega, by omega, by omega⟩)⟩ | exact ⟨0, 0, 0, Or.inr (Or.inr (Or.inr (Or.inr (Or.inr (Or.inr ⟨by omega, by omega, by omega, by omega, by omega, by omega⟩)))))⟩ | (exfalso; omega) | omega) (by first | exact pq9 | exact LoZ_h192t216 | exact Lo_h192t215 | exact ⟨st.1, st.2.1, st.2.2.2.2⟩ | exact Or.inl ⟨by omega, zF, st.2.2.1, st.2.2.2.1⟩ | exact Or.inr (Or.inr (Or.inl ⟨by omega, by omega, zC, st.2.2.1, st.2.2.2.1⟩)) | exact Or.inr (Or.inr (Or.inr (Or.inl ⟨by omega, by omega, zW, st.2.2.2.1⟩))) | exact Or.inr (Or.inr (Or.inr (Or.inr (Or.inl ⟨by omega, by omega, zJ, fun _ => st.2.2.1, st.2.2.2.1⟩)))) | exact Or.inr (Or.inr (Or.inr (Or.inr (Or.inr (Or.inl ⟨by omega, by omega, zS, st.2.2.1, st.2.2.2.1⟩))))) | exact ⟨_, _, _, Or.inl ⟨by omega, zF, rfl, rfl⟩⟩ | exact ⟨_, _, _, Or.inr (Or.inr (Or.inl ⟨by omega, by omega, zC, rfl, rfl⟩))⟩ | exact ⟨_, _, _, Or.inr (Or.inr (Or.inr (Or.inl ⟨by omega, by omega, zW, rfl⟩)))⟩ | exact ⟨_, 0, _, Or.inr (Or.inr (Or.inr (Or.inr (Or.inl ⟨by omega, by omega, zJ, fun q => absurd q (by omega), rfl⟩))))⟩ | exact ⟨_, _, _, Or.inr (Or.inr (Or.inr (Or.inr (Or.inr (Or.inl ⟨by omega, by omega, zS, rfl, rfl⟩)))))⟩ | exact ⟨0, 0, 0, Or.inr (Or.inl ⟨by omega, by omega, by omega⟩)⟩ | exact ⟨0, 0, 0, Or.inr (Or.inr (Or.inr (Or.inr (Or.inr (Or.inr ⟨by omega, by omega, by omega, by omega, by omega, by omega⟩)))))⟩ | (exfalso; omega) | omega) Ln_h192t198 Sp_h192t199 Al_h192t200 Cu_h192t201)
              ·
                have gh202 : my_fr [(4, 4), (4, 5), (4, 6), (4, 7), (4, 8), (4, 9), (5, 5), (5, 6), (5, 7), (5, 8), (5, 9), (32, -1), (33, -1), (34, -1), (35, -1), (36, -1), (37, -1), (38, -1), (39, -1)] h h202 := my_fr.tr gh179 (frh202.mo rfl)
                show wp l rho (d + 7) 49 121 [(2, 82), (0, 0), (0, 0), (0, 1), (0, 0), (0, 0)] [] h202 Q
                have tE218 : cs h179 = cs h := cs_eq (fun j => my_fr.at gh179 is_92 rfl) (my_fr.at gh179 is_82 rfl)
                rw [tE218] at xp204
                have ps219 : h179 82 7 = (sN (cs h) (h 82 7)) := xc187
                rw [ps219] at xp204
                rw [tE218] at xp207
                rw [ps219] at xp207
                have q2 : h179 82 2 = h 82 2 := my_fr.at frh179 is_82 rfl
                have q11 : h179 (h 82 2) 1 = h (h 82 2) 1 := my_fr.at frh179 n_Ln.2.2.2.1 rfl
                have q13 : h179 (h 82 2) 3 = h (h 82 2) 3 := my_fr.at frh179 n_Ln.2.2.2.1 rfl
                have q14 : h179 (h 82 2) 4 = h (h 82 2) 4 := my_fr.at frh179 n_Ln.2.2.2.1 rfl
                have q19 : h179 (h 82 2) 9 = h (h 82 2) 9 := my_fr.at frh179 n_Ln.2.2.2.1 rfl
                have qc : h179 2 = h 2 := funext (fun j => my_fr.at frh179 is_2 rfl)
                have zW := xp204
                simp only [q2, q11, q13, q14, q19, qc] at zW
                have st := xp205
                unfold Std at st
                simp only [q2, q11, q13, q14, q19, qc] at st
                have Lo_h202t220 : Lo h h202 := Lo_tr Lo_h179 xp206
                have z9 := xp207
                try simp only [q2, q11, q13, q14, q19, qc] at z9
                have pq9 : PnQ h h202 := PnQ_few (by omega) az9 q2 n_Ln.2.2.2.1 z9
                have LoZ_h202t221 : LoZ h h202 := LoZ_tr LoZ_h179 xp208
                refine w_goto (t := 140) gz_49_121 rfl ?_
                have psR : h202 82 7 = h202 82 7 := (rfl : h202 82 7 = h202 82 7)
                have npsR : cs h202 = cs h := cs_eq (fun j => my_fr.at gh202 is_92 rfl) (my_fr.at gh202 is_82 rfl)
                have c222 := w203
                exact w_vret gz_49_140 gm_49 (k1 h202 (gh202) (by omega) (by first | exact pq9 | exact LoZ_h202t221 | exact Lo_h202t220 | exact ⟨st.1, st.2.1, st.2.2.2.2⟩ | exact Or.inl ⟨by omega, zF, st.2.2.1, st.2.2.2.1⟩ | exact Or.inr (Or.inr (Or.inl ⟨by omega, by omega, zC, st.2.2.1, st.2.2.2.1⟩)) | exact Or.inr (Or.inr (Or.inr (Or.inl ⟨by omega, by omega, zW, st.2.2.2.1⟩))) | exact Or.inr (Or.inr (Or.inr (Or.inr (Or.inl ⟨by omega, by omega, zJ, fun _ => st.2.2.1, st.2.2.2.1⟩)))) | exact Or.inr (Or.inr (Or.inr (Or.inr (Or.inr (Or.inl ⟨by omega, by omega, zS, st.2.2.1, st.2.2.2.1⟩))))) | exact ⟨_, _, _, Or.inl ⟨by omega, zF, rfl, rfl⟩⟩ | exact ⟨_, _, _, Or.inr (Or.inr (Or.inl ⟨by omega, by omega, zC, rfl, rfl⟩))⟩ | exact ⟨_, _, _, Or.inr (Or.inr (Or.inr (Or.inl ⟨by omega, by omega, zW, rfl⟩)))⟩ | exact ⟨_, 0, _, Or.inr (Or.inr (Or.inr (Or.inr (Or.inl ⟨by omega, by omega, zJ, fun q => absurd q (by omega), rfl⟩))))⟩ | exact ⟨_, _, _, Or.inr (Or.inr (Or.inr (Or.inr (Or.inr (Or.inl ⟨by omega, by omega, zS, rfl, rfl⟩)))))⟩ | exact ⟨0, 0, 0, Or.inr (Or.inl ⟨by omega, by omega, by omega⟩)⟩ | exact ⟨0, 0, 0, Or.inr (Or.inr (Or.inr (Or.inr (Or.inr (Or.inr ⟨by omega, by omega, by omega, by omega, by omega, by omega⟩)))))⟩ | (exfalso; omega) | omega) (by first | exact pq9 | exact LoZ_h202t221 | exact Lo_h202t220 | exact ⟨st.1, st.2.1, st.2.2.2.2⟩ | exact Or.inl ⟨by omega, zF, st.2.2.1, st.2.2.2.1⟩ | exact Or.inr (Or.inr (Or.inl ⟨by omega, by omega, zC, st.2.2.1, st.2.2.2.1⟩)) | exact Or.inr (Or.inr (Or.inr (Or.inl ⟨by omega, by omega, zW, st.2.2.2.1⟩))) | exact Or.inr (Or.inr (Or.inr (Or.inr (Or.inl ⟨by omega, by omega, zJ, fun _ => st.2.2.1, st.2.2.2.1⟩)))) | exact Or.inr (Or.inr (Or.inr (Or.inr (Or.inr (Or.inl ⟨by omega, by omega, zS, st.2.2.1, st.2.2.2.1⟩))))) | exact ⟨_, _, _, Or.inl ⟨by omega, zF, rfl, rfl⟩⟩ | exact ⟨_, _, _, Or.inr (Or.inr (Or.inl ⟨by omega, by omega, zC, rfl, rfl⟩))⟩ | exact ⟨_, _, _, Or.inr (Or.inr (Or.inr (Or.inl ⟨by omega, by omega, zW, rfl⟩)))⟩ | exact ⟨_, 0, _, Or.inr (Or.inr (Or.inr (Or.inr (Or.inl ⟨by omega, by omega, zJ, fun q => absurd q (by omega), rfl⟩))))⟩ | exact ⟨_, _, _, Or.inr (Or.inr (Or.inr (Or.inr (Or.inr (Or.inl ⟨by omega, by omega, zS, rfl, rfl⟩)))))⟩ | exact ⟨0, 0, 0, Or.inr (Or.inl ⟨by omega, by omega, by omega⟩)⟩ | exact ⟨0, 0, 0, Or.inr (Or.inr (Or.inr (Or.inr (Or.inr (Or.inr ⟨by omega, by omega, by omega, by omega, by omega, by omega⟩)))))⟩ | (exfalso; omega) | omega) (by first | exact pq9 | exact LoZ_h202t221 | exact Lo_h202t220 | exact ⟨st.1, st.2.1, st.2.2.2.2⟩ | exact Or.inl ⟨by omega, zF, st.2.2.1, st.2.2.2.1⟩ | exact Or.inr (Or.inr (Or.inl ⟨by omega, by omega, zC, st.2.2.1, st.2.2.2.1⟩)) | exact Or.inr (Or.inr (Or.inr (Or.inl ⟨by omega, by omega, zW, st.2.2.2.1⟩))) | exact Or.inr (Or.inr (Or.inr (Or.inr (Or.inl ⟨by omega, by omega, zJ, fun _ => st.2.2.1, st.2.2.2.1⟩)))) | exact Or.inr (Or.inr (Or.inr (Or.inr (Or.inr (Or.inl ⟨by omega, by omega, zS, st.2.2.1, st.2.2.2.1⟩))))) | exact ⟨_, _, _, Or.inl ⟨by omega, zF, rfl, rfl⟩⟩ | exact ⟨_, _, _, Or.inr (Or.inr (Or.inl ⟨by omega, by omega, zC, rfl, rfl⟩))⟩ | exact ⟨_, _, _, Or.inr (Or.inr (Or.inr (Or.inl ⟨by omega, by omega, zW, rfl⟩)))⟩ | exact ⟨_, 0, _, Or.inr (Or.inr (Or.inr (Or.inr (Or.inl ⟨by omega, by omega, zJ, fun q => absurd q (by omega), rfl⟩))))⟩ | exact ⟨_, _, _, Or.inr (Or.inr (Or.inr (Or.inr (Or.inr (Or.inl ⟨by omega, by omega, zS, rfl, rfl⟩)))))⟩ | exact ⟨0, 0, 0, Or.inr (Or.inl ⟨by omega, by omega, by omega⟩)⟩ | exact ⟨0, 0, 0, Or.inr (Or.inr (Or.inr (Or.inr (Or.inr (Or.inr ⟨by omega, by omega, by omega, by omega, by omega, by omega⟩)))))⟩ | (exfalso; omega) | omega) (by first | exact pq9 | exact LoZ_h202t221 | exact Lo_h202t220 | exact ⟨st.1, st.2.1, st.2.2.2.2⟩ | exact Or.inl ⟨by omega, zF, st.2.2.1, st.2.2.2.1⟩ | exact Or.inr (Or.inr (Or.inl ⟨by omega, by omega, zC, st.2.2.1, st.2.2.2.1⟩)) | exact Or.inr (Or.inr (Or.inr (Or.inl ⟨by omega, by omega, zW, st.2.2.2.1⟩))) | exact Or.inr (Or.inr (Or.inr (Or.inr (Or.inl ⟨by omega, by omega, zJ, fun _ => st.2.2.1, st.2.2.2.1⟩)))) | exact Or.inr (Or.inr (Or.inr (Or.inr (Or.inr (Or.inl ⟨by omega, by omega, zS, st.2.2.1, st.2.2.2.1⟩))))) | exact ⟨_, _, _, Or.inl ⟨by omega, zF, rfl, rfl⟩⟩ | exact ⟨_, _, _, Or.inr (Or.inr (Or.inl ⟨by omega, by omega, zC, rfl, rfl⟩))⟩ | exact ⟨_, _, _, Or.inr (Or.inr (Or.inr (Or.inl ⟨by omega, by omega, zW, rfl⟩)))⟩ | exact ⟨_, 0, _, Or.inr (Or.inr (Or.inr (Or.inr (Or.inl ⟨by omega, by omega, zJ, fun q => absurd q (by omega), rfl⟩))))⟩ | exact ⟨_, _, _, Or.inr (Or.inr (Or.inr (Or.inr (Or.inr (Or.inl ⟨by omega, by omega, zS, rfl, rfl⟩)))))⟩ | exact ⟨0, 0, 0, Or.inr (Or.inl ⟨by omega, by omega, by omega⟩)⟩ | exact ⟨0, 0, 0, Or.inr (Or.inr (Or.inr (Or.inr (Or.inr (Or.inr ⟨by omega, by omega, by omega, by omega, by omega, by omega⟩)))))⟩ | (exfalso; omega) | omega) (by first | exact pq9 | exact LoZ_h202t221 | exact Lo_h202t220 | exact ⟨st.1, st.2.1, st.2.2.2.2⟩ | exact Or.inl ⟨by omega, zF, st.2.2.1, st.2.2.2.1⟩ | exact Or.inr (Or.inr (Or.inl ⟨by omega, by omega, zC, st.2.2.1, st.2.2.2.1⟩)) | exact Or.inr (Or.inr (Or.inr (Or.inl ⟨by omega, by omega, zW, st.2.2.2.1⟩))) | exact Or.inr (Or.inr (Or.inr (Or.inr (Or.inl ⟨by omega, by omega, zJ, fun _ => st.2.2.1, st.2.2.2.1⟩)))) | exact Or.inr (Or.inr (Or.inr (Or.inr (Or.inr (Or.inl ⟨by omega, by omega, zS, st.2.2.1, st.2.2.2.1⟩))))) | exact ⟨_, _, _, Or.inl ⟨by omega, zF, rfl, rfl⟩⟩ | exact ⟨_, _, _, Or.inr (Or.inr (Or.inl ⟨by omega, by omega, zC, rfl, rfl⟩))⟩ | exact ⟨_, _, _, Or.inr (Or.inr (Or.inr (Or.inl ⟨by omega, by omega, zW, rfl⟩)))⟩ | exact ⟨_, 0, _, Or.inr (Or.inr (Or.inr (Or.inr (Or.inl ⟨by omega, by omega, zJ, fun q => absurd q (by omega), rfl⟩))))⟩ | exact ⟨_, _, _, Or.inr (Or.inr (Or.inr (Or.inr (Or.inr (Or.inl ⟨by omega, by omega, zS, rfl, rfl⟩)))))⟩ | exact ⟨0, 0, 0, Or.inr (Or.inl ⟨by omega, by omega, by omega⟩)⟩ | exact ⟨0, 0, 0, Or.inr (Or.inr (Or.inr (Or.inr (Or.inr (Or.inr ⟨by omega, by omega, by omega, by omega, by omega, by omega⟩)))))⟩ | (exfalso; omega) | omega) Ln_h202t209 Sp_h202t210 Al_h202t211 Cu_h202t212)
            ·
              refine w_aload_n gz_49_81 rfl ?_
              refine w_iconst gz_49_82 (by decide) ?_
              refine w_inv (k := 0) (as := [(0, 5)]) (r := []) (x := 82) (ls0 := [(2, 82), (0, 5)]) gz_49_83 gm_42 rfl is_82 rd_5 rfl rfl rfl rfl rfl ?_
              refine w_aload_n gz_42_0 rfl ?_
              refine v_getI (j := 9) gz_42_1 rfl is_82 rd_5 rfl (fun v223 ev223 pv223 qv223 => ?_)
              have zv223 := ev223.trans cf
              refine w_ifne (t := 20) gz_42_4 rfl (fun u224 => by exfalso; omega) (fun u224 => ?_)
              refine w_aload_n gz_42_7 rfl ?_
              refine w_iload_n gz_42_8 rfl ?_
              refine w_bipush gz_42_9 (by decide) ?_
              refine w_aload_n gz_42_11 rfl ?_
              refine v_getI (j := 7) gz_42_12 rfl is_82 rd_5 rfl (fun v225 ev225 pv225 qv225 => ?_)
              refine w_imul gz_42_15 ⟨by omega, by omega⟩ ?_
              refine w_iadd gz_42_16 ⟨by omega, by omega⟩ ?_
              refine v_putI (j := 9) gz_42_17 rfl is_82 rd_5 rfl (by omega) (by omega) rfl (fun h226 fh226 => ?_)
              have gh226 : my_fr [(4, 4), (4, 5), (4, 6), (4, 7), (4, 8), (4, 9), (5, 5), (5, 6), (5, 7), (5, 8), (5, 9), (32, -1), (33, -1), (34, -1), (35, -1), (36, -1), (37, -1), (38, -1), (39, -1)] h h226 := my_fr.up my_fr.rf is_82 fh226 rfl
              have Ln_h226 : Ln h226 := Ln_ag (my_ag.up fh226 is_82 rfl) n_Ln
              have Sp_h226 : Sp h226 wv := Sp_ag (my_ag.up fh226 is_82 rfl) hwv n_Ln n_Sp
              have Al_h226 : Al h226 := Al_ag (my_ag.up fh226 is_82 rfl) n_Al
              have Cu_h226 : Cu h226 := Cu_ag (my_ag.up fh226 is_82 rfl) n_Cu
              have Lo_h226 : Lo h h226 := Lo_ag (my_ag.up fh226 is_82 rfl) n_Ln (Lo_rf)
              have AgZ_h226 : my_ag LzF h h226 := AgZ_ag (my_ag.up fh226 is_82 rfl) (my_ag.rf : my_ag LzF h h)
              have LoZ_h226 : LoZ h h226 := LoZ_ag (my_ag.up fh226 is_82 rfl) n_Ln (LoZ_rf)
              refine w_vret gz_42_20 gm_42 ?_
              show wp l rho (d + 7) 49 86 [(2, 82), (0, 0), (0, 0), (0, 1), (0, 0), (0, 0)] [] h226 Q
              have psR : h226 82 7 = h 82 7 := ((my_up_fld fh226 (by decide)).trans (rfl : h 82 7 = h 82 7))
              have npsR : cs h226 = cs h := cs_eq (fun j => my_fr.at gh226 is_92 rfl) (my_fr.at gh226 is_82 rfl)
              have c227 := (my_up_self fh226)
              exact w_vret gz_49_86 gm_49 (k0 h226 (gh226) (by omega) (by omega) (by first | exact pq9 | exact LoZ_h226 | exact Lo_h226 | exact ⟨st.1, st.2.1, st.2.2.2.2⟩ | exact Or.inl ⟨by omega, zF, st.2.2.1, st.2.2.2.1⟩ | exact Or.inr (Or.inr (Or.inl ⟨by omega, by omega, zC, st.2.2.1, st.2.2.2.1⟩)) | exact Or.inr (Or.inr (Or.inr (Or.inl ⟨by omega, by omega, zW, st.2.2.2.1⟩))) | exact Or.inr (Or.inr (Or.inr (Or.inr (Or.inl ⟨by omega, by omega, zJ, fun _ => st.2.2.1, st.2.2.2.1⟩)))) | exact Or.inr (Or.inr (Or.inr (Or.inr (Or.inr (Or.inl ⟨by omega, by omega, zS, st.2.2.1, st.2.2.2.1⟩))))) | exact ⟨_, _, _, Or.inl ⟨by omega, zF, rfl, rfl⟩⟩ | exact ⟨_, _, _, Or.inr (Or.inr (Or.inl ⟨by omega, by omega, zC, rfl, rfl⟩))⟩ | exact ⟨_, _, _, Or.inr (Or.inr (Or.inr (Or.inl ⟨by omega, by omega, zW, rfl⟩)))⟩ | exact ⟨_, 0, _, Or.inr (Or.inr (Or.inr (Or.inr (Or.inl ⟨by omega, by omega, zJ, fun q => absurd q (by omega), rfl⟩))))⟩ | exact ⟨_, _, _, Or.inr (Or.inr (Or.inr (Or.inr (Or.inr (Or.inl ⟨by omega, by omega, zS, rfl, rfl⟩)))))⟩ | exact ⟨0, 0, 0, Or.inr (Or.inl ⟨by omega, by omega, by omega⟩)⟩ | exact ⟨0, 0, 0, Or.inr (Or.inr (Or.inr (Or.inr (Or.inr (Or.inr ⟨by omega, by omega, by omega, by omega, by omega, by omega⟩)))))⟩ | (exfalso; omega) | omega) (by first | exact pq9 | exact LoZ_h226 | exact Lo_h226 | exact ⟨st.1, st.2.1, st.2.2.2.2⟩ | exact Or.inl ⟨by omega, zF, st.2.2.1, st.2.2.2.1⟩ | exact Or.inr (Or.inr (Or.inl ⟨by omega, by omega, zC, st.2.2.1, st.2.2.2.1⟩)) | exact Or.inr (Or.inr (Or.inr (Or.inl ⟨by omega, by omega, zW, st.2.2.2.1⟩))) | exact Or.inr (Or.inr (Or.inr (Or.inr (Or.inl ⟨by omega, by omega, zJ, fun _ => st.2.2.1, st.2.2.2.1⟩)))) | exact Or.inr (Or.inr (Or.inr (Or.inr (Or.inr (Or.inl ⟨by omega, by omega, zS, st.2.2.1, st.2.2.2.1⟩))))) | exact ⟨_, _, _, Or.inl ⟨by omega, zF, rfl, rfl⟩⟩ | exact ⟨_, _, _, Or.inr (Or.inr (Or.inl ⟨by omega, by omega, zC, rfl, rfl⟩))⟩ | exact ⟨_, _, _, Or.inr (Or.inr (Or.inr (Or.inl ⟨by omega, by omega, zW, rfl⟩)))⟩ | exact ⟨_, 0, _, Or.inr (Or.inr (Or.inr (Or.inr (Or.inl ⟨by omega, by omega, zJ, fun q => absurd q (by omega), rfl⟩))))⟩ | exact ⟨_, _, _, Or.inr (Or.inr (Or.inr (Or.inr (Or.inr (Or.inl ⟨by omega, by omega, zS, rfl, rfl⟩)))))⟩ | exact ⟨0, 0, 0, Or.inr (Or.inl ⟨by omega, by omega, by omega⟩)⟩ | exact ⟨0, 0, 0, Or.inr (Or.inr (Or.inr (Or.inr (Or.inr (Or.inr ⟨by omega, by omega, by omega, by omega, by omega, by omega⟩)))))⟩ | (exfalso; omega) | omega) (by first | exact pq9 | exact LoZ_h226 | exact Lo_h226 | exact ⟨st.1, st.2.1, st.2.2.2.2⟩ | exact Or.inl ⟨by omega, zF, st.2.2.1, st.2.2.2.1⟩ | exact Or.inr (Or.inr (Or.inl ⟨by omega, by omega, zC, st.2.2.1, st.2.2.2.1⟩)) | exact Or.inr (Or.inr (Or.inr (Or.inl ⟨by omega, by omega, zW, st.2.2.2.1⟩))) | exact Or.inr (Or.inr (Or.inr (Or.inr (Or.inl ⟨by omega, by omega, zJ, fun _ => st.2.2.1, st.2.2.2.1⟩)))) | exact Or.inr (Or.inr (Or.inr (Or.inr (Or.inr (Or.inl ⟨by omega, by omega, zS, st.2.2.1, st.2.2.2.1⟩))))) | exact ⟨_, _, _, Or.inl ⟨by omega, zF, rfl, rfl⟩⟩ | exact ⟨_, _, _, Or.inr (Or.inr (Or.inl ⟨by omega, by omega, zC, rfl, rfl⟩))⟩ | exact ⟨_, _, _, Or.inr (Or.inr (Or.inr (Or.inl ⟨by omega, by omega, zW, rfl⟩)))⟩ | exact ⟨_, 0, _, Or.inr (Or.inr (Or.inr (Or.inr (Or.inl ⟨by omega, by omega, zJ, fun q => absurd q (by omega), rfl⟩))))⟩ | exact ⟨_, _, _, Or.inr (Or.inr (Or.inr (Or.inr (Or.inr (Or.inl ⟨by omega, by omega, zS, rfl, rfl⟩)))))⟩ | exact ⟨0, 0, 0, Or.inr (Or.inl ⟨by omega, by omega, by omega⟩)⟩ | exact ⟨0, 0, 0, Or.inr (Or.inr (Or.inr (Or.inr (Or.inr (Or.inr ⟨by omega, by omega, by omega, by omega, by omega, by omega⟩)))))⟩ | (exfalso; omega) | omega) Ln_h226 Sp_h226 Al_h226 Cu_h226)
          ·
            show wp l rho (d + 7) 49 35 [(2, 82), (0, 0), (0, 0), (0, 1), (0, 0), (9, 0)] [(0, 1)] h Q
            rw [show wc ((8 : Nat) : Int) = 26801 from by decide] at xp170
            exfalso; omega
        ·
          show wp l rho (d + 7) 49 27 [(2, 82), (0, 0), (0, 0), (0, 1), (9, 0), (9, 0)] [(0, 1)] h Q
          rw [show wc ((7 : Nat) : Int) = 527412 from by decide] at xp165
          exfalso; omega
    ·
      show wp l rho (d + 7) 49 13 [(2, 82), (0, 0), (9, 0), (9, 0), (9, 0), (9, 0)] [(0, 1)] h Q
      rw [show wc ((5 : Nat) : Int) = 4904 from by decide] at xp11
      refine w_istore_n (ls' := [(2, 82), (0, 0), (0, 1), (9, 0), (9, 0), (9, 0)]) gz_49_13 gm_49 rfl rfl rfl ?_
      refine w_aload_n gz_49_14 rfl ?_
      refine w_ldcS gz_49_15 (by decide) ?_
      refine w_inv (k := 1) (as := [(3, ((6 : Nat) : Int))]) (r := []) (x := 82) (ls0 := [(2, 82), (3, ((6 : Nat) : Int)), (9, 0)]) gz_49_17 gm_41 rfl is_82 rd_5 rfl rfl rfl rfl rfl (c_Reader_isWord9_f0 (d := (d + 2)) (x1 := ((6 : Nat) : Int)) (by decide) (cf.trans (by omega)) n_Cu (fun w228 xp229 => ?_) (fun w230 w231 xp232 => ?_))
      ·
        show wp l rho (d + 7) 49 20 [(2, 82), (0, 0), (0, 1), (9, 0), (9, 0), (9, 0)] [(0, 0)] h Q
        rw [show wc ((6 : Nat) : Int) = 8422 from by decide] at xp229
        refine w_istore_n (ls' := [(2, 82), (0, 0), (0, 1), (0, 0), (9, 0), (9, 0)]) gz_49_20 gm_49 rfl rfl rfl ?_
        refine w_aload_n gz_49_21 rfl ?_
        refine w_ldcS gz_49_22 (by decide) ?_
        refine w_inv (k := 1) (as := [(3, ((7 : Nat) : Int))]) (r := []) (x := 82) (ls0 := [(2, 82), (3, ((7 : Nat) : Int)), (9, 0)]) gz_49_24 gm_41 rfl is_82 rd_5 rfl rfl rfl rfl rfl (c_Reader_isWord9_f0 (d := (d + 2)) (x1 := ((7 : Nat) : Int)) (by decide) (cf.trans (by omega)) n_Cu (fun w233 xp234 => ?_) (fun w235 w236 xp237 => ?_))
        ·
          show wp l rho (d + 7) 49 27 [(2, 82), (0, 0), (0, 1), (0, 0), (9, 0), (9, 0)] [(0, 0)] h Q
          rw [show wc ((7 : Nat) : Int) = 527412 from by decide] at xp234
          refine w_istore (ls' := [(2, 82), (0, 0), (0, 1), (0, 0), (0, 0), (9, 0)]) gz_49_27 gm_49 rfl rfl rfl ?_
          refine w_aload_n gz_49_29 rfl ?_
          refine w_ldcS gz_49_30 (by decide) ?_
          refine w_inv (k := 1) (as := [(3, ((8 : Nat) : Int))]) (r := []) (x := 82) (ls0 := [(2, 82), (3, ((8 : Nat) : Int)), (9, 0)]) gz_49_32 gm_41 rfl is_82 rd_5 rfl rfl rfl rfl rfl (c_Reader_isWord9_f0 (d := (d + 2)) (x1 := ((8 : Nat) : Int)) (by decide) (cf.trans (by omega)) n_Cu (fun w238 xp239 => ?_) (fun w240 w241 xp242 => ?_))
          ·
            show wp l rho (d + 7) 49 35 [(2, 82), (0, 0), (0, 1), (0, 0), (0, 0), (9, 0)] [(0, 0)] h Q
            rw [show wc ((8 : Nat) : Int) = 26801 from by decide] at xp239
            refine w_istore (ls' := [(2, 82), (0, 0), (0, 1), (0, 0), (0, 0), (0, 0)]) gz_49_35 gm_49 rfl rfl rfl ?_
            refine w_iload_n gz_49_37 rfl ?_
            refine w_ifne (t := 65) gz_49_38 rfl (fun u243 => by exfalso; omega) (fun u243 => ?_)
            refine w_iload_n gz_49_41 rfl ?_
            refine w_ifne (t := 65) gz_49_42 rfl (fun u244 => ?_) (fun u244 => by exfalso; omega)
            refine w_iload_n gz_49_65 rfl ?_
            refine w_ifne (t := 87) gz_49_66 rfl (fun u245 => by exfalso; omega) (fun u245 => ?_)
            refine w_aload_n gz_49_69 rfl ?_
            refine v_getR (j := 2) gz_49_70 rfl is_82 rd_5 rfl (fun v246 ev246 tv246 => ?_)
            have sE73 : v246 = h 82 2 := by first | assumption | omega
            refine v_getI (j := 9) gz_49_73 rfl tv246 rd_4 rfl (fun v247 ev247 pv247 qv247 => ?_)
            have c76 : v247 = h (h 82 2) 9 := by rw [← sE73]; omega
            refine w_bipush gz_49_76 (by decide) ?_
            refine w_iclt (t := 87) gz_49_78 rfl (fun u248 => ?_) (fun u248 => ?_)
            ·
              have St5_ht249 : St5 h := ⟨by subst_vars; omega, by subst_vars; omega⟩
              refine w_aload_n gz_49_87 rfl ?_
              refine w_inv (k := 2) (as := []) (r := []) (x := 82) (ls0 := [(2, 82), (9, 0), (9, 0)]) gz_49_88 gm_37 rfl is_82 rd_5 rfl rfl rfl rfl rfl (c_Reader_nextToken9_f0 (d := (d + 5))  (cf.trans (by omega)) n_Al (fun h250 frh250 w251 w252 w253 xp254 xp255 Al_h250t256 Cu_h250t257 => ?_))
              have gh250 : my_fr [(4, 4), (4, 5), (4, 6), (4, 7), (4, 8), (4, 9), (5, 5), (5, 6), (5, 7), (5, 8), (5, 9), (32, -1), (33, -1), (34, -1), (35, -1), (36, -1), (37, -1), (38, -1), (39, -1)] h h250 := my_fr.tr my_fr.rf (frh250.mo rfl)
              have Ln_h250 : Ln h250 := Ln_ag (my_ag.fr frh250 rfl) n_Ln
              have Sp_h250 : Sp h250 wv := Sp_ag (my_ag.fr frh250 rfl) hwv n_Ln n_Sp
              have Lo_h250 : Lo h h250 := Lo_ag (my_ag.fr frh250 rfl) n_Ln (Lo_rf)
              have AgZ_h250 : my_ag LzF h h250 := AgZ_ag (my_ag.fr frh250 rfl) (my_ag.rf : my_ag LzF h h)
              have LoZ_h250 : LoZ h h250 := LoZ_ag (my_ag.fr frh250 rfl) n_Ln (LoZ_rf)
              have St5_h250 : St5 h250 := St5_ag (my_ag.fr frh250 rfl) n_Ln St5_ht249
              show wp l rho (d + 7) 49 91 [(2, 82), (0, 0), (0, 1), (0, 0), (0, 0), (0, 0)] [] h250 Q
              have xc258 := xp254 n_Cu
              have ck259 := Cu_s Cu_h250t257
              rw [show cs h250 = cs h from cs_eq (fun j => my_fr.at gh250 is_92 rfl) (my_fr.at gh250 is_82 rfl)] at ck259
              rw [show h250 82 7 = (sN (cs h) (h 82 7)) from xc258] at ck259
              refine w_iload_n gz_49_91 rfl ?_
              refine w_ifeq (t := 102) gz_49_92 rfl (fun u260 => ?_) (fun u260 => by exfalso; omega)
              refine w_iload_n gz_49_102 rfl ?_
              refine w_ifeq (t := 113) gz_49_103 rfl (fun u261 => by exfalso; omega) (fun u261 => ?_)
              refine w_aload_n gz_49_106 rfl ?_
              have az9 := AgZ_h250
              refine w_inv (k := 3) (as := []) (r := []) (x := 82) (ls0 := [(2, 82), (9, 0), (9, 0), (9, 0)]) gz_49_107 gm_52 rfl is_82 rd_5 rfl rfl rfl rfl rfl (c_Reader_readCut7_f0 (d := (d + 1))  (wv := wv) (((my_fr.at frh250 is_82 rfl).trans cf).trans (by omega)) (by first | assumption | omega) (by first | assumption | omega) Ln_h250 Sp_h250 St5_h250 Al_h250t256 Cu_h250t257 (fun h262 frh262 w263 w264 xp265 xp266 Ln_h262t267 Sp_h262t268 Al_h262t269 Cu_h262t270 => ?_) (fun h271 frh271 w272 xp273 xp274 xp275 xp276 Ln_h271t277 Sp_h271t278 Al_h271t279 Cu_h271t280 => ?_))
              ·
                have gh262 : my_fr [(4, 4), (4, 5), (4, 6), (4, 7), (4, 8), (4, 9), (5, 5), (5, 6), (5, 7), (5, 8), (5, 9), (32, -1), (33, -1), (34, -1), (35, -1), (36, -1), (37, -1), (38, -1), (39, -1)] h h262 := my_fr.tr gh250 (frh262.mo rfl)
                have Lo_h262 : Lo h h262 := Lo_ag (my_ag.fr frh262 rfl) Ln_h250 Lo_h250
                show wp l rho (d + 7) 49 110 [(2, 82), (0, 0), (0, 1), (0, 0), (0, 0), (0, 0)] [] h262 Q
                have tE281 : cs h250 = cs h := cs_eq (fun j => my_fr.at gh250 is_92 rfl) (my_fr.at gh250 is_82 rfl)
                rw [tE281] at xp265
                have ps282 : h250 82 7 = (sN (cs h) (h 82 7)) := xc258
                rw [ps282] at xp265
                have q2 : h250 82 2 = h 82 2 := my_fr.at frh250 is_82 rfl
                have q11 : h250 (h 82 2) 1 = h (h 82 2) 1 := my_fr.at frh250 n_Ln.2.2.2.1 rfl
                have q13 : h250 (h 82 2) 3 = h (h 82 2) 3 := my_fr.at frh250 n_Ln.2.2.2.1 rfl
                have q14 : h250 (h 82 2) 4 = h (h 82 2) 4 := my_fr.at frh250 n_Ln.2.2.2.1 rfl
                have q19 : h250 (h 82 2) 9 = h (h 82 2) 9 := my_fr.at frh250 n_Ln.2.2.2.1 rfl
                have qc : h250 2 = h 2 := funext (fun j => my_fr.at frh250 is_2 rfl)
                have zC := xp265
                simp only [q2, q11, q13, q14, q19, qc] at zC
                have LoZ_h262t283 : LoZ h h262 := LoZ_tr LoZ_h250 xp266
                refine w_goto (t := 140) gz_49_110 rfl ?_
                have psR : h262 82 7 = h262 82 7 := (rfl : h262 82 7 = h262 82 7)
                have npsR : cs h262 = cs h := cs_eq (fun j => my_fr.at gh262 is_92 rfl) (my_fr.at gh262 is_82 rfl)
                have c284 := (rfl : h262 82 9 = h262 82 9)
                exact w_vret gz_49_140 gm_49 (k0 h262 (gh262) (by omega) (by omega) (by first | exact pq9 | exact LoZ_h262t283 | exact Lo_h262 | exact ⟨st.1, st.2.1, st.2.2.2.2⟩ | exact Or.inl ⟨by omega, zF, st.2.2.1, st.2.2.2.1⟩ | exact Or.inr (Or.inr (Or.inl ⟨by omega, by omega, zC, st.2.2.1, st.2.2.2.1⟩)) | exact Or.inr (Or.inr (Or.inr (Or.inl ⟨by omega, by omega, zW, st.2.2.2.1⟩))) | exact Or.inr (Or.inr (Or.inr (Or.inr (Or.inl ⟨by omega, by omega, zJ, fun _ => st.2.2.1, st.2.2.2.1⟩)))) | exact Or.inr (Or.inr (Or.inr (Or.inr (Or.inr (Or.inl ⟨by omega, by omega, zS, st.2.2.1, st.2.2.2.1⟩))))) | exact ⟨_, _, _, Or.inl ⟨by omega, zF, rfl, rfl⟩⟩ | exact ⟨_, _, _, Or.inr (Or.inr (Or.inl ⟨by omega, by omega, zC, rfl, rfl⟩))⟩ | exact ⟨_, _, _, Or.inr (Or.inr (Or.inr (Or.inl ⟨by omega, by omega, zW, rfl⟩)))⟩ | exact ⟨_, 0, _, Or.inr (Or.inr (Or.inr (Or.inr (Or.inl ⟨by omega, by omega, zJ, fun q => absurd q (by omega), rfl⟩))))⟩ | exact ⟨_, _, _, Or.inr (Or.inr (Or.inr (Or.inr (Or.inr (Or.inl ⟨by omega, by omega, zS, rfl, rfl⟩)))))⟩ | exact ⟨0, 0, 0, Or.inr (Or.inl ⟨by omega, by omega, by omega⟩)⟩ | exact ⟨0, 0, 0, Or.inr (Or.inr (Or.inr (Or.inr (Or.inr (Or.inr ⟨by omega, by omega, by omega, by omega, by omega, by omega⟩)))))⟩ | (exfalso; omega) | omega) (by first | exact pq9 | exact LoZ_h262t283 | exact Lo_h262 | exact ⟨st.1, st.2.1, st.2.2.2.2⟩ | exact Or.inl ⟨by omega, zF, st.2.2.1, st.2.2.2.1⟩ | exact Or.inr (Or.inr (Or.inl ⟨by omega, by omega, zC, st.2.2.1, st.2.2.2.1⟩)) | exact Or.inr (Or.inr (Or.inr (Or.inl ⟨by omega, by omega, zW, st.2.2.2.1⟩))) | exact Or.inr (Or.inr (Or.inr (Or.inr (Or.inl ⟨by omega, by omega, zJ, fun _ => st.2.2.1, st.2.2.2.1⟩)))) | exact Or.inr (Or.inr (Or.inr (Or.inr (Or.inr (Or.inl ⟨by omega, by omega, zS, st.2.2.1, st.2.2.2.1⟩))))) | exact ⟨_, _, _, Or.inl ⟨by omega, zF, rfl, rfl⟩⟩ | exact ⟨_, _, _, Or.inr (Or.inr (Or.inl ⟨by omega, by omega, zC, rfl, rfl⟩))⟩ | exact ⟨_, _, _, Or.inr (Or.inr (Or.inr (Or.inl ⟨by omega, by omega, zW, rfl⟩)))⟩ | exact ⟨_, 0, _, Or.inr (Or.inr (Or.inr (Or.inr (Or.inl ⟨by omega, by omega, zJ, fun q => absurd q (by omega), rfl⟩))))⟩ | exact ⟨_, _, _, Or.inr (Or.inr (Or.inr (Or.inr (Or.inr (Or.inl ⟨by omega, by omega, zS, rfl, rfl⟩)))))⟩ | exact ⟨0, 0, 0, Or.inr (Or.inl ⟨by omega, by omega, by omega⟩)⟩ | exact ⟨0, 0, 0, Or.inr (Or.inr (Or.inr (Or.inr (Or.inr (Or.inr ⟨by omega, by omega, by omega, by omega, by omega, by omega⟩)))))⟩ | (exfalso; omega) | omega) (by first | exact pq9 | exact LoZ_h262t283 | exact Lo_h262 | exact ⟨st.1, st.2.1, st.2.2.2.2⟩ | exact Or.inl ⟨by omega, zF, st.2.2.1, st.2.2.2.1⟩ | exact Or.inr (Or.inr (Or.inl ⟨by omega, by omega, zC, st.2.2.1, st.2.2.2.1⟩)) | exact Or.inr (Or.inr (Or.inr (Or.inl ⟨by omega, by omega, zW, st.2.2.2.1⟩))) | exact Or.inr (Or.inr (Or.inr (Or.inr (Or.inl ⟨by omega, by omega, zJ, fun _ => st.2.2.1, st.2.2.2.1⟩)))) | exact Or.inr (Or.inr (Or.inr (Or.inr (Or.inr (Or.inl ⟨by omega, by omega, zS, st.2.2.1, st.2.2.2.1⟩))))) | exact ⟨_, _, _, Or.inl ⟨by omega, zF, rfl, rfl⟩⟩ | exact ⟨_, _, _, Or.inr (Or.inr (Or.inl ⟨by omega, by omega, zC, rfl, rfl⟩))⟩ | exact ⟨_, _, _, Or.inr (Or.inr (Or.inr (Or.inl ⟨by omega, by omega, zW, rfl⟩)))⟩ | exact ⟨_, 0, _, Or.inr (Or.inr (Or.inr (Or.inr (Or.inl ⟨by omega, by omega, zJ, fun q => absurd q (by omega), rfl⟩))))⟩ | exact ⟨_, _, _, Or.inr (Or.inr (Or.inr (Or.inr (Or.inr (Or.inl ⟨by omega, by omega, zS, rfl, rfl⟩)))))⟩ | exact ⟨0, 0, 0, Or.inr (Or.inl ⟨by omega, by omega, by omega⟩)⟩ | exact ⟨0, 0, 0, Or.inr (Or.inr (Or.inr (Or.inr (Or.inr (Or.inr ⟨by omega, by omega, by omega, by omega, by omega, by omega⟩)))))⟩ | (exfalso; omega) | omega) Ln_h262t267 Sp_h262t268 Al_h262t269 Cu_h262t270)
              ·
                have gh271 : my_fr [(4, 4), (4, 5), (4, 6), (4, 7), (4, 8), (4, 9), (5, 5), (5, 6), (5, 7), (5, 8), (5, 9), (32, -1), (33, -1), (34, -1), (35, -1), (36, -1), (37, -1), (38, -1), (39, -1)] h h271 := my_fr.tr gh250 (frh271.mo rfl)
                have Lo_h271 : Lo h h271 := Lo_ag (my_ag.fr frh271 rfl) Ln_h250 Lo_h250
                show wp l rho (d + 7) 49 110 [(2, 82), (0, 0), (0, 1), (0, 0), (0, 0), (0, 0)] [] h271 Q
                have tE285 : cs h250 = cs h := cs_eq (fun j => my_fr.at gh250 is_92 rfl) (my_fr.at gh250 is_82 rfl)
                rw [tE285] at xp273
                have ps286 : h250 82 7 = (sN (cs h) (h 82 7)) := xc258
                rw [ps286] at xp273
                rw [tE285] at xp275
                rw [ps286] at xp275
                have q2 : h250 82 2 = h 82 2 := my_fr.at frh250 is_82 rfl
                have q11 : h250 (h 82 2) 1 = h (h 82 2) 1 := my_fr.at frh250 n_Ln.2.2.2.1 rfl
                have q13 : h250 (h 82 2) 3 = h (h 82 2) 3 := my_fr.at frh250 n_Ln.2.2.2.1 rfl
                have q14 : h250 (h 82 2) 4 = h (h 82 2) 4 := my_fr.at frh250 n_Ln.2.2.2.1 rfl
                have q19 : h250 (h 82 2) 9 = h (h 82 2) 9 := my_fr.at frh250 n_Ln.2.2.2.1 rfl
                have qc : h250 2 = h 2 := funext (fun j => my_fr.at frh250 is_2 rfl)
                have zC := xp273
                simp only [q2, q11, q13, q14, q19, qc] at zC
                have st := xp274
                unfold Std at st
                simp only [q2, q11, q13, q14, q19, qc] at st
                have z9 := xp275
                try simp only [q2, q11, q13, q14, q19, qc] at z9
                have pq9 : PnQ h h271 := PnQ_cut (by omega) az9 q2 n_Ln.2.2.2.1 z9
                have LoZ_h271t287 : LoZ h h271 := LoZ_tr LoZ_h250 xp276
                refine w_goto (t := 140) gz_49_110 rfl ?_
                have psR : h271 82 7 = h271 82 7 := (rfl : h271 82 7 = h271 82 7)
                have npsR : cs h271 = cs h := cs_eq (fun j => my_fr.at gh271 is_92 rfl) (my_fr.at gh271 is_82 rfl)
                have c288 := w272
                exact w_vret gz_49_140 gm_49 (k1 h271 (gh271) (by omega) (by first | exact pq9 | exact LoZ_h271t287 | exact Lo_h271 | exact ⟨st.1, st.2.1, st.2.2.2.2⟩ | exact Or.inl ⟨by omega, zF, st.2.2.1, st.2.2.2.1⟩ | exact Or.inr (Or.inr (Or.inl ⟨by omega, by omega, zC, st.2.2.1, st.2.2.2.1⟩)) | exact Or.inr (Or.inr (Or.inr (Or.inl ⟨by omega, by omega, zW, st.2.2.2.1⟩))) | exact Or.inr (Or.inr (Or.inr (Or.inr (Or.inl ⟨by omega, by omega, zJ, fun _ => st.2.2.1, st.2.2.2.1⟩)))) | exact Or.inr (Or.inr (Or.inr (Or.inr (Or.inr (Or.inl ⟨by omega, by omega, zS, st.2.2.1, st.2.2.2.1⟩))))) | exact ⟨_, _, _, Or.inl ⟨by omega, zF, rfl, rfl⟩⟩ | exact ⟨_, _, _, Or.inr (Or.inr (Or.inl ⟨by omega, by omega, zC, rfl, rfl⟩))⟩ | exact ⟨_, _, _, Or.inr (Or.inr (Or.inr (Or.inl ⟨by omega, by omega, zW, rfl⟩)))⟩ | exact ⟨_, 0, _, Or.inr (Or.inr (Or.inr (Or.inr (Or.inl ⟨by omega, by omega, zJ, fun q => absurd q (by omega), rfl⟩))))⟩ | exact ⟨_, _, _, Or.inr (Or.inr (Or.inr (Or.inr (Or.inr (Or.inl ⟨by omega, by omega, zS, rfl, rfl⟩)))))⟩ | exact ⟨0, 0, 0, Or.inr (Or.inl ⟨by omega, by omega, by omega⟩)⟩ | exact ⟨0, 0, 0, Or.inr (Or.inr (Or.inr (Or.inr (Or.inr (Or.inr ⟨by omega, by omega, by omega, by omega, by omega, by omega⟩)))))⟩ | (exfalso; omega) | omega) (by first | exact pq9 | exact LoZ_h271t287 | exact Lo_h271 | exact ⟨st.1, st.2.1, st.2.2.2.2⟩ | exact Or.inl ⟨by omega, zF, st.2.2.1, st.2.2.2.1⟩ | exact Or.inr (Or.inr (Or.inl ⟨by omega, by omega, zC, st.2.2.1, st.2.2.2.1⟩)) | exact Or.inr (Or.inr (Or.inr (Or.inl ⟨by omega, by omega, zW, st.2.2.2.1⟩))) | exact Or.inr (Or.inr (Or.inr (Or.inr (Or.inl ⟨by omega, by omega, zJ, fun _ => st.2.2.1, st.2.2.2.1⟩)))) | exact Or.inr (Or.inr (Or.inr (Or.inr (Or.inr (Or.inl ⟨by omega, by omega, zS, st.2.2.1, st.2.2.2.1⟩))))) | exact ⟨_, _, _, Or.inl ⟨by omega, zF, rfl, rfl⟩⟩ | exact ⟨_, _, _, Or.inr (Or.inr (Or.inl ⟨by omega, by omega, zC, rfl, rfl⟩))⟩ | exact ⟨_, _, _, Or.inr (Or.inr (Or.inr (Or.inl ⟨by omega, by omega, zW, rfl⟩)))⟩ | exact ⟨_, 0, _, Or.inr (Or.inr (Or.inr (Or.inr (Or.inl ⟨by omega, by omega, zJ, fun q => absurd q (by omega), rfl⟩))))⟩ | exact ⟨_, _, _, Or.inr (Or.inr (Or.inr (Or.inr (Or.inr (Or.inl ⟨by omega, by omega, zS, rfl, rfl⟩)))))⟩ | exact ⟨0, 0, 0, Or.inr (Or.inl ⟨by omega, by omega, by omega⟩)⟩ | exact ⟨0, 0, 0, Or.inr (Or.inr (Or.inr (Or.inr (Or.inr (Or.inr ⟨by omega, by omega, by omega, by omega, by omega, by omega⟩)))))⟩ | (exfalso; omega) | omega) (by first | exact pq9 | exact LoZ_h271t287 | exact Lo_h271 | exact ⟨st.1, st.2.1, st.2.2.2.2⟩ | exact Or.inl ⟨by omega, zF, st.2.2.1, st.2.2.2.1⟩ | exact Or.inr (Or.inr (Or.inl ⟨by omega, by omega, zC, st.2.2.1, st.2.2.2.1⟩)) | exact Or.inr (Or.inr (Or.inr (Or.inl ⟨by omega, by omega, zW, st.2.2.2.1⟩))) | exact Or.inr (Or.inr (Or.inr (Or.inr (Or.inl ⟨by omega, by omega, zJ, fun _ => st.2.2.1, st.2.2.2.1⟩)))) | exact Or.inr (Or.inr (Or.inr (Or.inr (Or.inr (Or.inl ⟨by omega, by omega, zS, st.2.2.1, st.2.2.2.1⟩))))) | exact ⟨_, _, _, Or.inl ⟨by omega, zF, rfl, rfl⟩⟩ | exact ⟨_, _, _, Or.inr (Or.inr (Or.inl ⟨by omega, by omega, zC, rfl, rfl⟩))⟩ | exact ⟨_, _, _, Or.inr (Or.inr (Or.inr (Or.inl ⟨by omega, by omega, zW, rfl⟩)))⟩ | exact ⟨_, 0, _, Or.inr (Or.inr (Or.inr (Or.inr (Or.inl ⟨by omega, by omega, zJ, fun q => absurd q (by omega), rfl⟩))))⟩ | exact ⟨_, _, _, Or.inr (Or.inr (Or.inr (Or.inr (Or.inr (Or.inl ⟨by omega, by omega, zS, rfl, rfl⟩)))))⟩ | exact ⟨0, 0, 0, Or.inr (Or.inl ⟨by omega, by omega, by omega⟩)⟩ | exact ⟨0, 0, 0, Or.inr (Or.inr (Or.inr (Or.inr (Or.inr (Or.inr ⟨by omega, by omega, by omega, by omega, by omega, by omega⟩)))))⟩ | (exfalso; omega) | omega) (by first | exact pq9 | exact LoZ_h271t287 | exact Lo_h271 | exact ⟨st.1, st.2.1, st.2.2.2.2⟩ | exact Or.inl ⟨by omega, zF, st.2.2.1, st.2.2.2.1⟩ | exact Or.inr (Or.inr (Or.inl ⟨by omega, by omega, zC, st.2.2.1, st.2.2.2.1⟩)) | exact Or.inr (Or.inr (Or.inr (Or.inl ⟨by omega, by omega, zW, st.2.2.2.1⟩))) | exact Or.inr (Or.inr (Or.inr (Or.inr (Or.inl ⟨by omega, by omega, zJ, fun _ => st.2.2.1, st.2.2.2.1⟩)))) | exact Or.inr (Or.inr (Or.inr (Or.inr (Or.inr (Or.inl ⟨by omega, by omega, zS, st.2.2.1, st.2.2.2.1⟩))))) | exact ⟨_, _, _, Or.inl ⟨by omega, zF, rfl, rfl⟩⟩ | exact ⟨_, _, _, Or.inr (Or.inr (Or.inl ⟨by omega, by omega, zC, rfl, rfl⟩))⟩ | exact ⟨_, _, _, Or.inr (Or.inr (Or.inr (Or.inl ⟨by omega, by omega, zW, rfl⟩)))⟩ | exact ⟨_, 0, _, Or.inr (Or.inr (Or.inr (Or.inr (Or.inl ⟨by omega, by omega, zJ, fun q => absurd q (by omega), rfl⟩))))⟩ | exact ⟨_, _, _, Or.inr (Or.inr (Or.inr (Or.inr (Or.inr (Or.inl ⟨by omega, by omega, zS, rfl, rfl⟩)))))⟩ | exact ⟨0, 0, 0, Or.inr (Or.inl ⟨by omega, by omega, by omega⟩)⟩ | exact ⟨0, 0, 0, Or.inr (Or.inr (Or.inr (Or.inr (Or.inr (Or.inr ⟨by omega, by omega, by omega, by omega, by omega, by omega⟩)))))⟩ | (exfalso; omega) | omega) (by first | exact pq9 | exact LoZ_h271t287 | exact Lo_h271 | exact ⟨st.1, st.2.1, st.2.2.2.2⟩ | exact Or.inl ⟨by omega, zF, st.2.2.1, st.2.2.2.1⟩ | exact Or.inr (Or.inr (Or.inl ⟨by omega, by omega, zC, st.2.2.1, st.2.2.2.1⟩)) | exact Or.inr (Or.inr (Or.inr (Or.inl ⟨by omega, by omega, zW, st.2.2.2.1⟩))) | exact Or.inr (Or.inr (Or.inr (Or.inr (Or.inl ⟨by omega, by omega, zJ, fun _ => st.2.2.1, st.2.2.2.1⟩)))) | exact Or.inr (Or.inr (Or.inr (Or.inr (Or.inr (Or.inl ⟨by omega, by omega, zS, st.2.2.1, st.2.2.2.1⟩))))) | exact ⟨_, _, _, Or.inl ⟨by omega, zF, rfl, rfl⟩⟩ | exact ⟨_, _, _, Or.inr (Or.inr (Or.inl ⟨by omega, by omega, zC, rfl, rfl⟩))⟩ | exact ⟨_, _, _, Or.inr (Or.inr (Or.inr (Or.inl ⟨by omega, by omega, zW, rfl⟩)))⟩ | exact ⟨_, 0, _, Or.inr (Or.inr (Or.inr (Or.inr (Or.inl ⟨by omega, by omega, zJ, fun q => absurd q (by omega), rfl⟩))))⟩ | exact ⟨_, _, _, Or.inr (Or.inr (Or.inr (Or.inr (Or.inr (Or.inl ⟨by omega, by omega, zS, rfl, rfl⟩)))))⟩ | exact ⟨0, 0, 0, Or.inr (Or.inl ⟨by omega, by omega, by omega⟩)⟩ | exact ⟨0, 0, 0, Or.inr (Or.inr (Or.inr (Or.inr (Or.inr (Or.inr ⟨by omega, by omega, by omega, by omega, by omega, by omega⟩)))))⟩ | (exfalso; omega) | omega) Ln_h271t277 Sp_h271t278 Al_h271t279 Cu_h271t280)
            ·
              refine w_aload_n gz_49_81 rfl ?_
              refine w_iconst gz_49_82 (by decide) ?_
              refine w_inv (k := 0) (as := [(0, 5)]) (r := []) (x := 82) (ls0 := [(2, 82), (0, 5)]) gz_49_83 gm_42 rfl is_82 rd_5 rfl rfl rfl rfl rfl ?_
              refine w_aload_n gz_42_0 rfl ?_
              refine v_getI (j := 9) gz_42_1 rfl is_82 rd_5 rfl (fun v289 ev289 pv289 qv289 => ?_)
              have zv289 := ev289.trans cf
              refine w_ifne (t := 20) gz_42_4 rfl (fun u290 => by exfalso; omega) (fun u290 => ?_)
              refine w_aload_n gz_42_7 rfl ?_
              refine w_iload_n gz_42_8 rfl ?_
              refine w_bipush gz_42_9 (by decide) ?_
              refine w_aload_n gz_42_11 rfl ?_
              refine v_getI (j := 7) gz_42_12 rfl is_82 rd_5 rfl (fun v291 ev291 pv291 qv291 => ?_)
              refine w_imul gz_42_15 ⟨by omega, by omega⟩ ?_
              refine w_iadd gz_42_16 ⟨by omega, by omega⟩ ?_
              refine v_putI (j := 9) gz_42_17 rfl is_82 rd_5 rfl (by omega) (by omega) rfl (fun h292 fh292 => ?_)
              have gh292 : my_fr [(4, 4), (4, 5), (4, 6), (4, 7), (4, 8), (4, 9), (5, 5), (5, 6), (5, 7), (5, 8), (5, 9), (32, -1), (33, -1), (34, -1), (35, -1), (36, -1), (37, -1), (38, -1), (39, -1)] h h292 := my_fr.up my_fr.rf is_82 fh292 rfl
              have Ln_h292 : Ln h292 := Ln_ag (my_ag.up fh292 is_82 rfl) n_Ln
              have Sp_h292 : Sp h292 wv := Sp_ag (my_ag.up fh292 is_82 rfl) hwv n_Ln n_Sp
              have Al_h292 : Al h292 := Al_ag (my_ag.up fh292 is_82 rfl) n_Al
              have Cu_h292 : Cu h292 := Cu_ag (my_ag.up fh292 is_82 rfl) n_Cu
              have Lo_h292 : Lo h h292 := Lo_ag (my_ag.up fh292 is_82 rfl) n_Ln (Lo_rf)
              have AgZ_h292 : my_ag LzF h h292 := AgZ_ag (my_ag.up fh292 is_82 rfl) (my_ag.rf : my_ag LzF h h)
              have LoZ_h292 : LoZ h h292 := LoZ_ag (my_ag.up fh292 is_82 rfl) n_Ln (LoZ_rf)
              refine w_vret gz_42_20 gm_42 ?_
              show wp l rho (d + 7) 49 86 [(2, 82), (0, 0), (0, 1), (0, 0), (0, 0), (0, 0)] [] h292 Q
              have psR : h292 82 7 = h 82 7 := ((my_up_fld fh292 (by decide)).trans (rfl : h 82 7 = h 82 7))
              have npsR : cs h292 = cs h := cs_eq (fun j => my_fr.at gh292 is_92 rfl) (my_fr.at gh292 is_82 rfl)
              have c293 := (my_up_self fh292)
              exact w_vret gz_49_86 gm_49 (k0 h292 (gh292) (by omega) (by omega) (by first | exact pq9 | exact LoZ_h292 | exact Lo_h292 | exact ⟨st.1, st.2.1, st.2.2.2.2⟩ | exact Or.inl ⟨by omega, zF, st.2.2.1, st.2.2.2.1⟩ | exact Or.inr (Or.inr (Or.inl ⟨by omega, by omega, zC, st.2.2.1, st.2.2.2.1⟩)) | exact Or.inr (Or.inr (Or.inr (Or.inl ⟨by omega, by omega, zW, st.2.2.2.1⟩))) | exact Or.inr (Or.inr (Or.inr (Or.inr (Or.inl ⟨by omega, by omega, zJ, fun _ => st.2.2.1, st.2.2.2.1⟩)))) | exact Or.inr (Or.inr (Or.inr (Or.inr (Or.inr (Or.inl ⟨by omega, by omega, zS, st.2.2.1, st.2.2.2.1⟩))))) | exact ⟨_, _, _, Or.inl ⟨by omega, zF, rfl, rfl⟩⟩ | exact ⟨_, _, _, Or.inr (Or.inr (Or.inl ⟨by omega, by omega, zC, rfl, rfl⟩))⟩ | exact ⟨_, _, _, Or.inr (Or.inr (Or.inr (Or.inl ⟨by omega, by omega, zW, rfl⟩)))⟩ | exact ⟨_, 0, _, Or.inr (Or.inr (Or.inr (Or.inr (Or.inl ⟨by omega, by omega, zJ, fun q => absurd q (by omega), rfl⟩))))⟩ | exact ⟨_, _, _, Or.inr (Or.inr (Or.inr (Or.inr (Or.inr (Or.inl ⟨by omega, by omega, zS, rfl, rfl⟩)))))⟩ | exact ⟨0, 0, 0, Or.inr (Or.inl ⟨by omega, by omega, by omega⟩)⟩ | exact ⟨0, 0, 0, Or.inr (Or.inr (Or.inr (Or.inr (Or.inr (Or.inr ⟨by omega, by omega, by omega, by omega, by omega, by omega⟩)))))⟩ | (exfalso; omega) | omega) (by first | exact pq9 | exact LoZ_h292 | exact Lo_h292 | exact ⟨st.1, st.2.1, st.2.2.2.2⟩ | exact Or.inl ⟨by omega, zF, st.2.2.1, st.2.2.2.1⟩ | exact Or.inr (Or.inr (Or.inl ⟨by omega, by omega, zC, st.2.2.1, st.2.2.2.1⟩)) | exact Or.inr (Or.inr (Or.inr (Or.inl ⟨by omega, by omega, zW, st.2.2.2.1⟩))) | exact Or.inr (Or.inr (Or.inr (Or.inr (Or.inl ⟨by omega, by omega, zJ, fun _ => st.2.2.1, st.2.2.2.1⟩)))) | exact Or.inr (Or.inr (Or.inr (Or.inr (Or.inr (Or.inl ⟨by omega, by omega, zS, st.2.2.1, st.2.2.2.1⟩))))) | exact ⟨_, _, _, Or.inl ⟨by omega, zF, rfl, rfl⟩⟩ | exact ⟨_, _, _, Or.inr (Or.inr (Or.inl ⟨by omega, by omega, zC, rfl, rfl⟩))⟩ | exact ⟨_, _, _, Or.inr (Or.inr (Or.inr (Or.inl ⟨by omega, by omega, zW, rfl⟩)))⟩ | exact ⟨_, 0, _, Or.inr (Or.inr (Or.inr (Or.inr (Or.inl ⟨by omega, by omega, zJ, fun q => absurd q (by omega), rfl⟩))))⟩ | exact ⟨_, _, _, Or.inr (Or.inr (Or.inr (Or.inr (Or.inr (Or.inl ⟨by omega, by omega, zS, rfl, rfl⟩)))))⟩ | exact ⟨0, 0, 0, Or.inr (Or.inl ⟨by omega, by omega, by omega⟩)⟩ | exact ⟨0, 0, 0, Or.inr (Or.inr (Or.inr (Or.inr (Or.inr (Or.inr ⟨by omega, by omega, by omega, by omega, by omega, by omega⟩)))))⟩ | (exfalso; omega) | omega) (by first | exact pq9 | exact LoZ_h292 | exact Lo_h292 | exact ⟨st.1, st.2.1, st.2.2.2.2⟩ | exact Or.inl ⟨by omega, zF, st.2.2.1, st.2.2.2.1⟩ | exact Or.inr (Or.inr (Or.inl ⟨by omega, by omega, zC, st.2.2.1, st.2.2.2.1⟩)) | exact Or.inr (Or.inr (Or.inr (Or.inl ⟨by omega, by omega, zW, st.2.2.2.1⟩))) | exact Or.inr (Or.inr (Or.inr (Or.inr (Or.inl ⟨by omega, by omega, zJ, fun _ => st.2.2.1, st.2.2.2.1⟩)))) | exact Or.inr (Or.inr (Or.inr (Or.inr (Or.inr (Or.inl ⟨by omega, by omega, zS, st.2.2.1, st.2.2.2.1⟩))))) | exact ⟨_, _, _, Or.inl ⟨by omega, zF, rfl, rfl⟩⟩ | exact ⟨_, _, _, Or.inr (Or.inr (Or.inl ⟨by omega, by omega, zC, rfl, rfl⟩))⟩ | exact ⟨_, _, _, Or.inr (Or.inr (Or.inr (Or.inl ⟨by omega, by omega, zW, rfl⟩)))⟩ | exact ⟨_, 0, _, Or.inr (Or.inr (Or.inr (Or.inr (Or.inl ⟨by omega, by omega, zJ, fun q => absurd q (by omega), rfl⟩))))⟩ | exact ⟨_, _, _, Or.inr (Or.inr (Or.inr (Or.inr (Or.inr (Or.inl ⟨by omega, by omega, zS, rfl, rfl⟩)))))⟩ | exact ⟨0, 0, 0, Or.inr (Or.inl ⟨by omega, by omega, by omega⟩)⟩ | exact ⟨0, 0, 0, Or.inr (Or.inr (Or.inr (Or.inr (Or.inr (Or.inr ⟨by omega, by omega, by omega, by omega, by omega, by omega⟩)))))⟩ | (exfalso; omega) | omega) Ln_h292 Sp_h292 Al_h292 Cu_h292)
          ·
            show wp l rho (d + 7) 49 35 [(2, 82), (0, 0), (0, 1), (0, 0), (0, 0), (9, 0)] [(0, 1)] h Q
            rw [show wc ((8 : Nat) : Int) = 26801 from by decide] at xp242
            exfalso; omega
        ·
          show wp l rho (d + 7) 49 27 [(2, 82), (0, 0), (0, 1), (0, 0), (9, 0), (9, 0)] [(0, 1)] h Q
          rw [show wc ((7 : Nat) : Int) = 527412 from by decide] at xp237
          exfalso; omega
      ·
        show wp l rho (d + 7) 49 20 [(2, 82), (0, 0), (0, 1), (9, 0), (9, 0), (9, 0)] [(0, 1)] h Q
        rw [show wc ((6 : Nat) : Int) = 8422 from by decide] at xp232
        exfalso; omega
  ·
    show wp l rho (d + 7) 49 6 [(2, 82), (9, 0), (9, 0), (9, 0), (9, 0), (9, 0)] [(0, 1)] h Q
    rw [show wc ((4 : Nat) : Int) = 316695 from by decide] at xp6
    refine w_istore_n (ls' := [(2, 82), (0, 1), (9, 0), (9, 0), (9, 0), (9, 0)]) gz_49_6 gm_49 rfl rfl rfl ?_
    refine w_aload_n gz_49_7 rfl ?_
    refine w_ldcS gz_49_8 (by decide) ?_
    refine w_inv (k := 1) (as := [(3, ((5 : Nat) : Int))]) (r := []) (x := 82) (ls0 := [(2, 82), (3, ((5 : Nat) : Int)), (9, 0)]) gz_49_10 gm_41 rfl is_82 rd_5 rfl rfl rfl rfl rfl (c_Reader_isWord9_f0 (d := (d + 2)) (x1 := ((5 : Nat) : Int)) (by decide) (cf.trans (by omega)) n_Cu (fun w294 xp295 => ?_) (fun w296 w297 xp298 => ?_))
    ·
      show wp l rho (d + 7) 49 13 [(2, 82), (0, 1), (9, 0), (9, 0), (9, 0), (9, 0)] [(0, 0)] h Q
      rw [show wc ((5 : Nat) : Int) = 4904 from by decide] at xp295
      refine w_istore_n (ls' := [(2, 82), (0, 1), (0, 0), (9, 0), (9, 0), (9, 0)]) gz_49_13 gm_49 rfl rfl rfl ?_
      refine w_aload_n gz_49_14 rfl ?_
      refine w_ldcS gz_49_15 (by decide) ?_
      refine w_inv (k := 1) (as := [(3, ((6 : Nat) : Int))]) (r := []) (x := 82) (ls0 := [(2, 82), (3, ((6 : Nat) : Int)), (9, 0)]) gz_49_17 gm_41 rfl is_82 rd_5 rfl rfl rfl rfl rfl (c_Reader_isWord9_f0 (d := (d + 2)) (x1 := ((6 : Nat) : Int)) (by decide) (cf.trans (by omega)) n_Cu (fun w299 xp300 => ?_) (fun w301 w302 xp303 => ?_))
      ·
        show wp l rho (d + 7) 49 20 [(2, 82), (0, 1), (0, 0), (9, 0), (9, 0), (9, 0)] [(0, 0)] h Q
        rw [show wc ((6 : Nat) : Int) = 8422 from by decide] at xp300
        refine w_istore_n (ls' := [(2, 82), (0, 1), (0, 0), (0, 0), (9, 0), (9, 0)]) gz_49_20 gm_49 rfl rfl rfl ?_
        refine w_aload_n gz_49_21 rfl ?_
        refine w_ldcS gz_49_22 (by decide) ?_
        refine w_inv (k := 1) (as := [(3, ((7 : Nat) : Int))]) (r := []) (x := 82) (ls0 := [(2, 82), (3, ((7 : Nat) : Int)), (9, 0)]) gz_49_24 gm_41 rfl is_82 rd_5 rfl rfl rfl rfl rfl (c_Reader_isWord9_f0 (d := (d + 2)) (x1 := ((7 : Nat) : Int)) (by decide) (cf.trans (by omega)) n_Cu (fun w304 xp305 => ?_) (fun w306 w307 xp308 => ?_))
        ·
          show wp l rho (d + 7) 49 27 [(2, 82), (0, 1), (0, 0), (0, 0), (9, 0), (9, 0)] [(0, 0)] h Q
          rw [show wc ((7 : Nat) : Int) = 527412 from by decide] at xp305
          refine w_istore (ls' := [(2, 82), (0, 1), (0, 0), (0, 0), (0, 0), (9, 0)]) gz_49_27 gm_49 rfl rfl rfl ?_
          refine w_aload_n gz_49_29 rfl ?_
          refine w_ldcS gz_49_30 (by decide) ?_
          refine w_inv (k := 1) (as := [(3, ((8 : Nat) : Int))]) (r := []) (x := 82) (ls0 := [(2, 82), (3, ((8 : Nat) : Int)), (9, 0)]) gz_49_32 gm_41 rfl is_82 rd_5 rfl rfl rfl rfl rfl (c_Reader_isWord9_f0 (d := (d + 2)) (x1 := ((8 : Nat) : Int)) (by decide) (cf.trans (by omega)) n_Cu (fun w309 xp310 => ?_) (fun w311 w312 xp313 => ?_))
          ·
            show wp l rho (d + 7) 49 35 [(2, 82), (0, 1), (0, 0), (0, 0), (0, 0), (9, 0)] [(0, 0)] h Q
            rw [show wc ((8 : Nat) : Int) = 26801 from by decide] at xp310
            refine w_istore (ls' := [(2, 82), (0, 1), (0, 0), (0, 0), (0, 0), (0, 0)]) gz_49_35 gm_49 rfl rfl rfl ?_
            refine w_iload_n gz_49_37 rfl ?_
            refine w_ifne (t := 65) gz_49_38 rfl (fun u314 => ?_) (fun u314 => by exfalso; omega)
            refine w_iload_n gz_49_65 rfl ?_
            refine w_ifne (t := 87) gz_49_66 rfl (fun u315 => ?_) (fun u315 => by exfalso; omega)
            refine w_aload_n gz_49_87 rfl ?_
            refine w_inv (k := 2) (as := []) (r := []) (x := 82) (ls0 := [(2, 82), (9, 0), (9, 0)]) gz_49_88 gm_37 rfl is_82 rd_5 rfl rfl rfl rfl rfl (c_Reader_nextToken9_f0 (d := (d + 5))  (cf.trans (by omega)) n_Al (fun h316 frh316 w317 w318 w319 xp320 xp321 Al_h316t322 Cu_h316t323 => ?_))
            have gh316 : my_fr [(4, 4), (4, 5), (4, 6), (4, 7), (4, 8), (4, 9), (5, 5), (5, 6), (5, 7), (5, 8), (5, 9), (32, -1), (33, -1), (34, -1), (35, -1), (36, -1), (37, -1), (38, -1), (39, -1)] h h316 := my_fr.tr my_fr.rf (frh316.mo rfl)
            have Ln_h316 : Ln h316 := Ln_ag (my_ag.fr frh316 rfl) n_Ln
            have Sp_h316 : Sp h316 wv := Sp_ag (my_ag.fr frh316 rfl) hwv n_Ln n_Sp
            have Lo_h316 : Lo h h316 := Lo_ag (my_ag.fr frh316 rfl) n_Ln (Lo_rf)
            have AgZ_h316 : my_ag LzF h h316 := AgZ_ag (my_ag.fr frh316 rfl) (my_ag.rf : my_ag LzF h h)
            have LoZ_h316 : LoZ h h316 := LoZ_ag (my_ag.fr frh316 rfl) n_Ln (LoZ_rf)
            show wp l rho (d + 7) 49 91 [(2, 82), (0, 1), (0, 0), (0, 0), (0, 0), (0, 0)] [] h316 Q
            have xc324 := xp320 n_Cu
            have ck325 := Cu_s Cu_h316t323
            rw [show cs h316 = cs h from cs_eq (fun j => my_fr.at gh316 is_92 rfl) (my_fr.at gh316 is_82 rfl)] at ck325
            rw [show h316 82 7 = (sN (cs h) (h 82 7)) from xc324] at ck325
            refine w_iload_n gz_49_91 rfl ?_
            refine w_ifeq (t := 102) gz_49_92 rfl (fun u326 => by exfalso; omega) (fun u326 => ?_)
            refine w_aload_n gz_49_95 rfl ?_
            have az9 := AgZ_h316
            refine w_inv (k := 2) (as := []) (r := []) (x := 82) (ls0 := [(2, 82), (9, 0), (9, 0)]) gz_49_96 gm_50 rfl is_82 rd_5 rfl rfl rfl rfl rfl (c_Reader_readFill7_f0 (d := (d + 3))  (((my_fr.at frh316 is_82 rfl).trans cf).trans (by omega)) Ln_h316 Al_h316t322 Cu_h316t323 (fun h327 frh327 w328 w329 xp330 xp331 Ln_h327t332 Al_h327t333 Cu_h327t334 => ?_) (fun h335 frh335 w336 xp337 xp338 xp339 xp340 Ln_h335t341 Al_h335t342 Cu_h335t343 => ?_))
            ·
              have gh327 : my_fr [(4, 4), (4, 5), (4, 6), (4, 7), (4, 8), (4, 9), (5, 5), (5, 6), (5, 7), (5, 8), (5, 9), (32, -1), (33, -1), (34, -1), (35, -1), (36, -1), (37, -1), (38, -1), (39, -1)] h h327 := my_fr.tr gh316 (frh327.mo rfl)
              have Ln_h327 : Ln h327 := Ln_ag (my_ag.fr frh327 rfl) Ln_h316
              have Sp_h327 : Sp h327 wv := Sp_ag (my_ag.fr frh327 rfl) hwv Ln_h316 Sp_h316
              have Lo_h327 : Lo h h327 := Lo_ag (my_ag.fr frh327 rfl) Ln_h316 Lo_h316
              show wp l rho (d + 7) 49 99 [(2, 82), (0, 1), (0, 0), (0, 0), (0, 0), (0, 0)] [] h327 Q
              have tE344 : cs h316 = cs h := cs_eq (fun j => my_fr.at gh316 is_92 rfl) (my_fr.at gh316 is_82 rfl)
              rw [tE344] at xp330
              have ps345 : h316 82 7 = (sN (cs h) (h 82 7)) := xc324
              rw [ps345] at xp330
              have q2 : h316 82 2 = h 82 2 := my_fr.at frh316 is_82 rfl
              have q11 : h316 (h 82 2) 1 = h (h 82 2) 1 := my_fr.at frh316 n_Ln.2.2.2.1 rfl
              have q13 : h316 (h 82 2) 3 = h (h 82 2) 3 := my_fr.at frh316 n_Ln.2.2.2.1 rfl
              have q14 : h316 (h 82 2) 4 = h (h 82 2) 4 := my_fr.at frh316 n_Ln.2.2.2.1 rfl
              have q19 : h316 (h 82 2) 9 = h (h 82 2) 9 := my_fr.at frh316 n_Ln.2.2.2.1 rfl
              have qc : h316 2 = h 2 := funext (fun j => my_fr.at frh316 is_2 rfl)
              have zF := xp330
              simp only [q2, q11, q13, q14, q19, qc] at zF
              have st : h327 82 2 = h 82 2 ∧ h327 (h 82 2) 3 = h (h 82 2) 3 ∧ h327 (h 82 2) 4 = h (h 82 2) 4 ∧ h327 (h 82 2) 9 = h (h 82 2) 9 ∧ h327 (h 82 2) 1 = h (h 82 2) 1 := ⟨(my_fr.at frh327 is_82 rfl).trans q2, (my_fr.at frh327 n_Ln.2.2.2.1 rfl).trans q13, (my_fr.at frh327 n_Ln.2.2.2.1 rfl).trans q14, (my_fr.at frh327 n_Ln.2.2.2.1 rfl).trans q19, (my_fr.at frh327 n_Ln.2.2.2.1 rfl).trans q11⟩
              have LoZ_h327t346 : LoZ h h327 := LoZ_tr LoZ_h316 xp331
              refine w_goto (t := 140) gz_49_99 rfl ?_
              have psR : h327 82 7 = h327 82 7 := (rfl : h327 82 7 = h327 82 7)
              have npsR : cs h327 = cs h := cs_eq (fun j => my_fr.at gh327 is_92 rfl) (my_fr.at gh327 is_82 rfl)
              have c347 := (rfl : h327 82 9 = h327 82 9)
              exact w_vret gz_49_140 gm_49 (k0 h327 (gh327) (by omega) (by omega) (by first | exact pq9 | exact LoZ_h327t346 | exact Lo_h327 | exact ⟨st.1, st.2.1, st.2.2.2.2⟩ | exact Or.inl ⟨by omega, zF, st.2.2.1, st.2.2.2.1⟩ | exact Or.inr (Or.inr (Or.inl ⟨by omega, by omega, zC, st.2.2.1, st.2.2.2.1⟩)) | exact Or.inr (Or.inr (Or.inr (Or.inl ⟨by omega, by omega, zW, st.2.2.2.1⟩))) | exact Or.inr (Or.inr (Or.inr (Or.inr (Or.inl ⟨by omega, by omega, zJ, fun _ => st.2.2.1, st.2.2.2.1⟩)))) | exact Or.inr (Or.inr (Or.inr (Or.inr (Or.inr (Or.inl ⟨by omega, by omega, zS, st.2.2.1, st.2.2.2.1⟩))))) | exact ⟨_, _, _, Or.inl ⟨by omega, zF, rfl, rfl⟩⟩ | exact ⟨_, _, _, Or.inr (Or.inr (Or.inl ⟨by omega, by omega, zC, rfl, rfl⟩))⟩ | exact ⟨_, _, _, Or.inr (Or.inr (Or.inr (Or.inl ⟨by omega, by omega, zW, rfl⟩)))⟩ | exact ⟨_, 0, _, Or.inr (Or.inr (Or.inr (Or.inr (Or.inl ⟨by omega, by omega, zJ, fun q => absurd q (by omega), rfl⟩))))⟩ | exact ⟨_, _, _, Or.inr (Or.inr (Or.inr (Or.inr (Or.inr (Or.inl ⟨by omega, by omega, zS, rfl, rfl⟩)))))⟩ | exact ⟨0, 0, 0, Or.inr (Or.inl ⟨by omega, by omega, by omega⟩)⟩ | exact ⟨0, 0, 0, Or.inr (Or.inr (Or.inr (Or.inr (Or.inr (Or.inr ⟨by omega, by omega, by omega, by omega, by omega, by omega⟩)))))⟩ | (exfalso; omega) | omega) (by first | exact pq9 | exact LoZ_h327t346 | exact Lo_h327 | exact ⟨st.1, st.2.1, st.2.2.2.2⟩ | exact Or.inl ⟨by omega, zF, st.2.2.1, st.2.2.2.1⟩ | exact Or.inr (Or.inr (Or.inl ⟨by omega, by omega, zC, st.2.2.1, st.2.2.2.1⟩)) | exact Or.inr (Or.inr (Or.inr (Or.inl ⟨by omega, by omega, zW, st.2.2.2.1⟩))) | exact Or.inr (Or.inr (Or.inr (Or.inr (Or.inl ⟨by omega, by omega, zJ, fun _ => st.2.2.1, st.2.2.2.1⟩)))) | exact Or.inr (Or.inr (Or.inr (Or.inr (Or.inr (Or.inl ⟨by omega, by omega, zS, st.2.2.1, st.2.2.2.1⟩))))) | exact ⟨_, _, _, Or.inl ⟨by omega, zF, rfl, rfl⟩⟩ | exact ⟨_, _, _, Or.inr (Or.inr (Or.inl ⟨by omega, by omega, zC, rfl, rfl⟩))⟩ | exact ⟨_, _, _, Or.inr (Or.inr (Or.inr (Or.inl ⟨by omega, by omega, zW, rfl⟩)))⟩ | exact ⟨_, 0, _, Or.inr (Or.inr (Or.inr (Or.inr (Or.inl ⟨by omega, by omega, zJ, fun q => absurd q (by omega), rfl⟩))))⟩ | exact ⟨_, _, _, Or.inr (Or.inr (Or.inr (Or.inr (Or.inr (Or.inl ⟨by omega, by omega, zS, rfl, rfl⟩)))))⟩ | exact ⟨0, 0, 0, Or.inr (Or.inl ⟨by omega, by omega, by omega⟩)⟩ | exact ⟨0, 0, 0, Or.inr (Or.inr (Or.inr (Or.inr (Or.inr (Or.inr ⟨by omega, by omega, by omega, by omega, by omega, by omega⟩)))))⟩ | (exfalso; omega) | omega) (by first | exact pq9 | exact LoZ_h327t346 | exact Lo_h327 | exact ⟨st.1, st.2.1, st.2.2.2.2⟩ | exact Or.inl ⟨by omega, zF, st.2.2.1, st.2.2.2.1⟩ | exact Or.inr (Or.inr (Or.inl ⟨by omega, by omega, zC, st.2.2.1, st.2.2.2.1⟩)) | exact Or.inr (Or.inr (Or.inr (Or.inl ⟨by omega, by omega, zW, st.2.2.2.1⟩))) | exact Or.inr (Or.inr (Or.inr (Or.inr (Or.inl ⟨by omega, by omega, zJ, fun _ => st.2.2.1, st.2.2.2.1⟩)))) | exact Or.inr (Or.inr (Or.inr (Or.inr (Or.inr (Or.inl ⟨by omega, by omega, zS, st.2.2.1, st.2.2.2.1⟩))))) | exact ⟨_, _, _, Or.inl ⟨by omega, zF, rfl, rfl⟩⟩ | exact ⟨_, _, _, Or.inr (Or.inr (Or.inl ⟨by omega, by omega, zC, rfl, rfl⟩))⟩ | exact ⟨_, _, _, Or.inr (Or.inr (Or.inr (Or.inl ⟨by omega, by omega, zW, rfl⟩)))⟩ | exact ⟨_, 0, _, Or.inr (Or.inr (Or.inr (Or.inr (Or.inl ⟨by omega, by omega, zJ, fun q => absurd q (by omega), rfl⟩))))⟩ | exact ⟨_, _, _, Or.inr (Or.inr (Or.inr (Or.inr (Or.inr (Or.inl ⟨by omega, by omega, zS, rfl, rfl⟩)))))⟩ | exact ⟨0, 0, 0, Or.inr (Or.inl ⟨by omega, by omega, by omega⟩)⟩ | exact ⟨0, 0, 0, Or.inr (Or.inr (Or.inr (Or.inr (Or.inr (Or.inr ⟨by omega, by omega, by omega, by omega, by omega, by omega⟩)))))⟩ | (exfalso; omega) | omega) Ln_h327t332 Sp_h327 Al_h327t333 Cu_h327t334)
            ·
              have gh335 : my_fr [(4, 4), (4, 5), (4, 6), (4, 7), (4, 8), (4, 9), (5, 5), (5, 6), (5, 7), (5, 8), (5, 9), (32, -1), (33, -1), (34, -1), (35, -1), (36, -1), (37, -1), (38, -1), (39, -1)] h h335 := my_fr.tr gh316 (frh335.mo rfl)
              have Ln_h335 : Ln h335 := Ln_ag (my_ag.fr frh335 rfl) Ln_h316
              have Sp_h335 : Sp h335 wv := Sp_ag (my_ag.fr frh335 rfl) hwv Ln_h316 Sp_h316
              have Lo_h335 : Lo h h335 := Lo_ag (my_ag.fr frh335 rfl) Ln_h316 Lo_h316
              show wp l rho (d + 7) 49 99 [(2, 82), (0, 1), (0, 0), (0, 0), (0, 0), (0, 0)] [] h335 Q
              have tE348 : cs h316 = cs h := cs_eq (fun j => my_fr.at gh316 is_92 rfl) (my_fr.at gh316 is_82 rfl)
              rw [tE348] at xp337
              have ps349 : h316 82 7 = (sN (cs h) (h 82 7)) := xc324
              rw [ps349] at xp337
              rw [tE348] at xp338
              rw [ps349] at xp338
              rw [tE348] at xp340
              rw [ps349] at xp340
              have q2 : h316 82 2 = h 82 2 := my_fr.at frh316 is_82 rfl
              have q11 : h316 (h 82 2) 1 = h (h 82 2) 1 := my_fr.at frh316 n_Ln.2.2.2.1 rfl
              have q13 : h316 (h 82 2) 3 = h (h 82 2) 3 := my_fr.at frh316 n_Ln.2.2.2.1 rfl
              have q14 : h316 (h 82 2) 4 = h (h 82 2) 4 := my_fr.at frh316 n_Ln.2.2.2.1 rfl
              have q19 : h316 (h 82 2) 9 = h (h 82 2) 9 := my_fr.at frh316 n_Ln.2.2.2.1 rfl
              have qc : h316 2 = h 2 := funext (fun j => my_fr.at frh316 is_2 rfl)
              have zF := xp337
              simp only [q2, q11, q13, q14, q19, qc] at zF
              have st : h335 82 2 = h 82 2 ∧ h335 (h 82 2) 3 = h (h 82 2) 3 ∧ h335 (h 82 2) 4 = h (h 82 2) 4 ∧ h335 (h 82 2) 9 = h (h 82 2) 9 ∧ h335 (h 82 2) 1 = h (h 82 2) 1 := ⟨(my_fr.at frh335 is_82 rfl).trans q2, (my_fr.at frh335 n_Ln.2.2.2.1 rfl).trans q13, (my_fr.at frh335 n_Ln.2.2.2.1 rfl).trans q14, (my_fr.at frh335 n_Ln.2.2.2.1 rfl).trans q19, (my_fr.at frh335 n_Ln.2.2.2.1 rfl).trans q11⟩
              have z9 := xp338
              have zv9 := xp340
              try simp only [q2, q11, q13, q14, q19, qc] at z9
              have pq9 : PnQ h h335 := PnQ_fill (by omega) az9 q2 n_Ln.2.2.2.1 zv9 z9
              have LoZ_h335t350 : LoZ h h335 := LoZ_tr LoZ_h316 xp339
              refine w_goto (t := 140) gz_49_99 rfl ?_
              have psR : h335 82 7 = h335 82 7 := (rfl : h335 82 7 = h335 82 7)
              have npsR : cs h335 = cs h := cs_eq (fun j => my_fr.at gh335 is_92 rfl) (my_fr.at gh335 is_82 rfl)
              have c351 := w336
              exact w_vret gz_49_140 gm_49 (k1 h335 (gh335) (by omega) (by first | exact pq9 | exact LoZ_h335t350 | exact Lo_h335 | exact ⟨st.1, st.2.1, st.2.2.2.2⟩ | exact Or.inl ⟨by omega, zF, st.2.2.1, st.2.2.2.1⟩ | exact Or.inr (Or.inr (Or.inl ⟨by omega, by omega, zC, st.2.2.1, st.2.2.2.1⟩)) | exact Or.inr (Or.inr (Or.inr (Or.inl ⟨by omega, by omega, zW, st.2.2.2.1⟩))) | exact Or.inr (Or.inr (Or.inr (Or.inr (Or.inl ⟨by omega, by omega, zJ, fun _ => st.2.2.1, st.2.2.2.1⟩)))) | exact Or.inr (Or.inr (Or.inr (Or.inr (Or.inr (Or.inl ⟨by omega, by omega, zS, st.2.2.1, st.2.2.2.1⟩))))) | exact ⟨_, _, _, Or.inl ⟨by omega, zF, rfl, rfl⟩⟩ | exact ⟨_, _, _, Or.inr (Or.inr (Or.inl ⟨by omega, by omega, zC, rfl, rfl⟩))⟩ | exact ⟨_, _, _, Or.inr (Or.inr (Or.inr (Or.inl ⟨by omega, by omega, zW, rfl⟩)))⟩ | exact ⟨_, 0, _, Or.inr (Or.inr (Or.inr (Or.inr (Or.inl ⟨by omega, by omega, zJ, fun q => absurd q (by omega), rfl⟩))))⟩ | exact ⟨_, _, _, Or.inr (Or.inr (Or.inr (Or.inr (Or.inr (Or.inl ⟨by omega, by omega, zS, rfl, rfl⟩)))))⟩ | exact ⟨0, 0, 0, Or.inr (Or.inl ⟨by omega, by omega, by omega⟩)⟩ | exact ⟨0, 0, 0, Or.inr (Or.inr (Or.inr (Or.inr (Or.inr (Or.inr ⟨by omega, by omega, by omega, by omega, by omega, by omega⟩)))))⟩ | (exfalso; omega) | omega) (by first | exact pq9 | exact LoZ_h335t350 | exact Lo_h335 | exact ⟨st.1, st.2.1, st.2.2.2.2⟩ | exact Or.inl ⟨by omega, zF, st.2.2.1, st.2.2.2.1⟩ | exact Or.inr (Or.inr (Or.inl ⟨by omega, by omega, zC, st.2.2.1, st.2.2.2.1⟩)) | exact Or.inr (Or.inr (Or.inr (Or.inl ⟨by omega, by omega, zW, st.2.2.2.1⟩))) | exact Or.inr (Or.inr (Or.inr (Or.inr (Or.inl ⟨by omega, by omega, zJ, fun _ => st.2.2.1, st.2.2.2.1⟩)))) | exact Or.inr (Or.inr (Or.inr (Or.inr (Or.inr (Or.inl ⟨by omega, by omega, zS, st.2.2.1, st.2.2.2.1⟩))))) | exact ⟨_, _, _, Or.inl ⟨by omega, zF, rfl, rfl⟩⟩ | exact ⟨_, _, _, Or.inr (Or.inr (Or.inl ⟨by omega, by omega, zC, rfl, rfl⟩))⟩ | exact ⟨_, _, _, Or.inr (Or.inr (Or.inr (Or.inl ⟨by omega, by omega, zW, rfl⟩)))⟩ | exact ⟨_, 0, _, Or.inr (Or.inr (Or.inr (Or.inr (Or.inl ⟨by omega, by omega, zJ, fun q => absurd q (by omega), rfl⟩))))⟩ | exact ⟨_, _, _, Or.inr (Or.inr (Or.inr (Or.inr (Or.inr (Or.inl ⟨by omega, by omega, zS, rfl, rfl⟩)))))⟩ | exact ⟨0, 0, 0, Or.inr (Or.inl ⟨by omega, by omega, by omega⟩)⟩ | exact ⟨0, 0, 0, Or.inr (Or.inr (Or.inr (Or.inr (Or.inr (Or.inr ⟨by omega, by omega, by omega, by omega, by omega, by omega⟩)))))⟩ | (exfalso; omega) | omega) (by first | exact pq9 | exact LoZ_h335t350 | exact Lo_h335 | exact ⟨st.1, st.2.1, st.2.2.2.2⟩ | exact Or.inl ⟨by omega, zF, st.2.2.1, st.2.2.2.1⟩ | exact Or.inr (Or.inr (Or.inl ⟨by omega, by omega, zC, st.2.2.1, st.2.2.2.1⟩)) | exact Or.inr (Or.inr (Or.inr (Or.inl ⟨by omega, by omega, zW, st.2.2.2.1⟩))) | exact Or.inr (Or.inr (Or.inr (Or.inr (Or.inl ⟨by omega, by omega, zJ, fun _ => st.2.2.1, st.2.2.2.1⟩)))) | exact Or.inr (Or.inr (Or.inr (Or.inr (Or.inr (Or.inl ⟨by omega, by omega, zS, st.2.2.1, st.2.2.2.1⟩))))) | exact ⟨_, _, _, Or.inl ⟨by omega, zF, rfl, rfl⟩⟩ | exact ⟨_, _, _, Or.inr (Or.inr (Or.inl ⟨by omega, by omega, zC, rfl, rfl⟩))⟩ | exact ⟨_, _, _, Or.inr (Or.inr (Or.inr (Or.inl ⟨by omega, by omega, zW, rfl⟩)))⟩ | exact ⟨_, 0, _, Or.inr (Or.inr (Or.inr (Or.inr (Or.inl ⟨by omega, by omega, zJ, fun q => absurd q (by omega), rfl⟩))))⟩ | exact ⟨_, _, _, Or.inr (Or.inr (Or.inr (Or.inr (Or.inr (Or.inl ⟨by omega, by omega, zS, rfl, rfl⟩)))))⟩ | exact ⟨0, 0, 0, Or.inr (Or.inl ⟨by omega, by omega, by omega⟩)⟩ | exact ⟨0, 0, 0, Or.inr (Or.inr (Or.inr (Or.inr (Or.inr (Or.inr ⟨by omega, by omega, by omega, by omega, by omega, by omega⟩)))))⟩ | (exfalso; omega) | omega) (by first | exact pq9 | exact LoZ_h335t350 | exact Lo_h335 | exact ⟨st.1, st.2.1, st.2.2.2.2⟩ | exact Or.inl ⟨by omega, zF, st.2.2.1, st.2.2.2.1⟩ | exact Or.inr (Or.inr (Or.inl ⟨by omega, by omega, zC, st.2.2.1, st.2.2.2.1⟩)) | exact Or.inr (Or.inr (Or.inr (Or.inl ⟨by omega, by omega, zW, st.2.2.2.1⟩))) | exact Or.inr (Or.inr (Or.inr (Or.inr (Or.inl ⟨by omega, by omega, zJ, fun _ => st.2.2.1, st.2.2.2.1⟩)))) | exact Or.inr (Or.inr (Or.inr (Or.inr (Or.inr (Or.inl ⟨by omega, by omega, zS, st.2.2.1, st.2.2.2.1⟩))))) | exact ⟨_, _, _, Or.inl ⟨by omega, zF, rfl, rfl⟩⟩ | exact ⟨_, _, _, Or.inr (Or.inr (Or.inl ⟨by omega, by omega, zC, rfl, rfl⟩))⟩ | exact ⟨_, _, _, Or.inr (Or.inr (Or.inr (Or.inl ⟨by omega, by omega, zW, rfl⟩)))⟩ | exact ⟨_, 0, _, Or.inr (Or.inr (Or.inr (Or.inr (Or.inl ⟨by omega, by omega, zJ, fun q => absurd q (by omega), rfl⟩))))⟩ | exact ⟨_, _, _, Or.inr (Or.inr (Or.inr (Or.inr (Or.inr (Or.inl ⟨by omega, by omega, zS, rfl, rfl⟩)))))⟩ | exact ⟨0, 0, 0, Or.inr (Or.inl ⟨by omega, by omega, by omega⟩)⟩ | exact ⟨0, 0, 0, Or.inr (Or.inr (Or.inr (Or.inr (Or.inr (Or.inr ⟨by omega, by omega, by omega, by omega, by omega, by omega⟩)))))⟩ | (exfalso; omega) | omega) (by first | exact pq9 | exact LoZ_h335t350 | exact Lo_h335 | exact ⟨st.1, st.2.1, st.2.2.2.2⟩ | exact Or.inl ⟨by omega, zF, st.2.2.1, st.2.2.2.1⟩ | exact Or.inr (Or.inr (Or.inl ⟨by omega, by omega, zC, st.2.2.1, st.2.2.2.1⟩)) | exact Or.inr (Or.inr (Or.inr (Or.inl ⟨by omega, by omega, zW, st.2.2.2.1⟩))) | exact Or.inr (Or.inr (Or.inr (Or.inr (Or.inl ⟨by omega, by omega, zJ, fun _ => st.2.2.1, st.2.2.2.1⟩)))) | exact Or.inr (Or.inr (Or.inr (Or.inr (Or.inr (Or.inl ⟨by omega, by omega, zS, st.2.2.1, st.2.2.2.1⟩))))) | exact ⟨_, _, _, Or.inl ⟨by omega, zF, rfl, rfl⟩⟩ | exact ⟨_, _, _, Or.inr (Or.inr (Or.inl ⟨by omega, by omega, zC, rfl, rfl⟩))⟩ | exact ⟨_, _, _, Or.inr (Or.inr (Or.inr (Or.inl ⟨by omega, by omega, zW, rfl⟩)))⟩ | exact ⟨_, 0, _, Or.inr (Or.inr (Or.inr (Or.inr (Or.inl ⟨by omega, by omega, zJ, fun q => absurd q (by omega), rfl⟩))))⟩ | exact ⟨_, _, _, Or.inr (Or.inr (Or.inr (Or.inr (Or.inr (Or.inl ⟨by omega, by omega, zS, rfl, rfl⟩)))))⟩ | exact ⟨0, 0, 0, Or.inr (Or.inl ⟨by omega, by omega, by omega⟩)⟩ | exact ⟨0, 0, 0, Or.inr (Or.inr (Or.inr (Or.inr (Or.inr (Or.inr ⟨by omega, by omega, by omega, by omega, by omega, by omega⟩)))))⟩ | (exfalso; omega) | omega) Ln_h335t341 Sp_h335 Al_h335t342 Cu_h335t343)
          ·
            show wp l rho (d + 7) 49 35 [(2, 82), (0, 1), (0, 0), (0, 0), (0, 0), (9, 0)] [(0, 1)] h Q
            rw [show wc ((8 : Nat) : Int) = 26801 from by decide] at xp313
            exfalso; omega
        ·
          show wp l rho (d + 7) 49 27 [(2, 82), (0, 1), (0, 0), (0, 0), (9, 0), (9, 0)] [(0, 1)] h Q
          rw [show wc ((7 : Nat) : Int) = 527412 from by decide] at xp308
          exfalso; omega
      ·
        show wp l rho (d + 7) 49 20 [(2, 82), (0, 1), (0, 0), (9, 0), (9, 0), (9, 0)] [(0, 1)] h Q
        rw [show wc ((6 : Nat) : Int) = 8422 from by decide] at xp303
        exfalso; omega
    ·
      show wp l rho (d + 7) 49 13 [(2, 82), (0, 1), (9, 0), (9, 0), (9, 0), (9, 0)] [(0, 1)] h Q
      rw [show wc ((5 : Nat) : Int) = 4904 from by decide] at xp298
      exfalso; omega
end MYNReader_readPane7_f0
