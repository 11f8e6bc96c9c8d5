/-! contracts, printed by wip/gen/gy.py -/
section MYNReader_readFew7_f0
theorem c_Reader_readFew7_f0 {l : Launch} {rho : Nat → Int32} {d : Nat} {h : my_H} {Q : my_H → my_V → Prop} {wv : Int} (cf : h 82 9 = 0) (hwv : wv ≤ 5) (hwv0 : 0 ≤ wv) (n_Ln : Ln h) (n_Sp : Sp h wv) (n_St5 : St5 h) (n_Al : Al h) (n_Cu : Cu h) (k0 : ∀ (h' : my_H), my_fr [(4, 4), (4, 5), (4, 9), (5, 5), (5, 6), (5, 7), (5, 8), (5, 9), (32, -1), (33, -1), (34, -1), (35, -1), (36, -1), (37, -1), (39, -1)] h h' → 1 ≤ h' 82 9 → h' 82 9 ≤ 16004 → fewE (cs h) (h (h 82 2) 4) (h 82 7) (h' 82 9) (h' 82 7) 0 → Lo h h' → LoZ h h' → Ln h' → Sp h' wv → Al h' → Cu h' → Q h' (9, 0)) (k1 : ∀ (h' : my_H), my_fr [(4, 4), (4, 5), (4, 9), (5, 5), (5, 6), (5, 7), (5, 8), (5, 9), (32, -1), (33, -1), (34, -1), (35, -1), (36, -1), (37, -1), (39, -1)] h h' → h' 82 9 = 0 → fewE (cs h) (h (h 82 2) 4) (h 82 7) (h' 82 9) (h' 82 7) (h' (h 82 2) 4) → Std h h' (h' (h 82 2) 4) (h (h 82 2) 9 + 1) → Lo h h' → (∃ c : Int, FewV (cs h) (h 82 7) c (fun j => h' (h 82 2 + 5) (8 * h (h 82 2) 9 + j)) ∧ PnI h h' 3 0 0 c) → LoZ h h' → Ln h' → Sp h' wv → Al h' → Cu h' → Q h' (9, 0)) : wp l rho (d + 2) 56 0 [(2, 82), (9, 0), (9, 0)] [] h Q := by
  have ck1 := Cu_s n_Cu
  have cv2 := Cu_v n_Cu
  have J2_0 : ∀ (n : Nat) (p2_0 : Int) (h2_0 : my_H), my_fr [(4, 4), (4, 5), (4, 9), (5, 5), (5, 6), (5, 7), (5, 8), (5, 9), (32, -1), (33, -1), (34, -1), (35, -1), (36, -1), (37, -1), (39, -1)] h h2_0 → 0 ≤ p2_0 → p2_0 ≤ 8 → h2_0 82 9 = 0 → Ln h2_0 → Sp h2_0 wv → St5 h2_0 → Al h2_0 → Cu h2_0 → Pk h2_0 p2_0 → Lo h h2_0 → my_ag LyF h h2_0 → LoZ h h2_0 → fwI h h2_0 p2_0 → h2_0 82 2 = h 82 2 → h2_0 (h 82 2) 1 = h (h 82 2) 1 → h2_0 (h 82 2) 3 = h (h 82 2) 3 → h2_0 (h 82 2) 4 = h (h 82 2) 4 → h2_0 (h 82 2) 9 = h (h 82 2) 9 → FwI h h2_0 p2_0 → 9 - p2_0 ≤ (n : Int) → wp l rho (d + 2) 56 2 [(2, 82), (0, p2_0), (9, 0)] [] h2_0 Q := by
    intro n
    induction n with
    | zero => intro p2_0 h2_0 gh_2_0 q0_2_0 q1_2_0 c82_9_2_0 n_Ln_2_0 n_Sp_2_0 n_St5_2_0 n_Al_2_0 n_Cu_2_0 n_Pk_2_0 n_Lo_2_0 n_AgY_2_0 n_LoZ_2_0 fw_2_0 e2_2_0 f1_2_0 f3_2_0 f4_2_0 f9_2_0 fi_2_0 hm_2_0; exfalso; omega
    | succ n ih_2_0 =>
      intro p2_0 h2_0 gh_2_0 q0_2_0 q1_2_0 c82_9_2_0 n_Ln_2_0 n_Sp_2_0 n_St5_2_0 n_Al_2_0 n_Cu_2_0 n_Pk_2_0 n_Lo_2_0 n_AgY_2_0 n_LoZ_2_0 fw_2_0 e2_2_0 f1_2_0 f3_2_0 f4_2_0 f9_2_0 fi_2_0 hm_2_0
      have ck3 := Cu_s n_Cu_2_0
      rw [show cs h2_0 = cs h from cs_eq (fun j => my_fr.at gh_2_0 is_92 rfl) (my_fr.at gh_2_0 is_82 rfl)] at ck3
      have cv4 := Cu_v n_Cu_2_0
      rw [show cs h2_0 = cs h from cs_eq (fun j => my_fr.at gh_2_0 is_92 rfl) (my_fr.at gh_2_0 is_82 rfl)] at cv4
      refine w_aload_n gz_56_2 rfl ?_
      refine w_aload_n gz_56_3 rfl ?_
      refine v_getR (j := 2) gz_56_4 rfl is_82 rd_5 rfl (fun v5 ev5 tv5 => ?_)
      have ce6 : h2_0 82 2 = v5 := ev5.symm
      have sE7 : v5 = h 82 2 := by first | assumption | omega
      refine v_getI (j := 4) gz_56_7 rfl tv5 rd_4 rfl (fun v7 ev7 pv7 qv7 => ?_)
      have c10 : v7 = h (h 82 2) 4 := by rw [← f4_2_0, ← sE7]; omega
      refine w_inv (k := 0) (as := [(0, v7)]) (r := []) (x := 82) (ls0 := [(2, 82), (0, v7)]) gz_56_10 gm_44 rfl is_82 rd_5 rfl rfl rfl rfl rfl ?_
      refine w_aload_n gz_44_0 rfl ?_
      refine v_getI (j := 6) gz_44_1 rfl is_82 rd_5 rfl (fun v8 ev8 pv8 qv8 => ?_)
      refine w_iconst gz_44_4 (by decide) ?_
      refine w_iceq (t := 15) gz_44_5 rfl (fun u9 => ?_) (fun u9 => ?_)
      ·
        refine w_aload_n gz_44_15 rfl ?_
        refine v_getI (j := 8) gz_44_16 rfl is_82 rd_5 rfl (fun v10 ev10 pv10 qv10 => ?_)
        refine w_iload_n gz_44_19 rfl ?_
        refine w_iclt (t := 30) gz_44_20 rfl (fun u11 => ?_) (fun u11 => ?_)
        ·
          refine w_aload_n gz_44_30 rfl ?_
          refine v_getI (j := 9) gz_44_31 rfl is_82 rd_5 rfl (fun v12 ev12 pv12 qv12 => ?_)
          have zv12 := ev12.trans c82_9_2_0
          refine w_ifne (t := 44) gz_44_34 rfl (fun u13 => by exfalso; omega) (fun u13 => ?_)
          refine w_aload_n gz_44_37 rfl ?_
          refine v_getI (j := 8) gz_44_38 rfl is_82 rd_5 rfl (fun v14 ev14 pv14 qv14 => ?_)
          have zv14 := ev14.trans ev10.symm
          refine w_goto (t := 45) gz_44_41 rfl ?_
          refine w_iret gz_44_45 gm_44 ?_
          show wp l rho (d + 2) 56 13 [(2, 82), (0, p2_0), (9, 0)] [(0, v14)] h2_0 Q
          refine w_istore_n (ls' := [(2, 82), (0, p2_0), (0, v14)]) gz_56_13 gm_56 rfl rfl rfl ?_
          refine w_iload_n gz_56_14 rfl ?_
          refine w_iconst gz_56_15 (by decide) ?_
          refine w_icne (t := 20) gz_56_16 rfl (fun u15 => ?_) (fun u15 => by exfalso; omega)
          refine w_aload_n gz_56_20 rfl ?_
          refine v_getR (j := 2) gz_56_21 rfl is_82 rd_5 rfl (fun v16 ev16 tv16 => ?_)
          have zv16 : v5 = v16 := (ev16.trans ev5.symm).symm
          subst zv16
          refine w_iload_n gz_56_24 rfl ?_
          refine w_iload_n gz_56_25 rfl ?_
          have ce17 : h2_0 82 2 = v5 := ev5.symm
          have s5a := n_St5_2_0
          have s5e : v5 = h2_0 82 2 := by first | assumption | omega
          unfold St5 at s5a
          rw [← s5e] at s5a
          refine w_inv (k := 1) (as := [(0, p2_0), (0, v14)]) (r := []) (x := v5) (ls0 := [(2, v5), (0, v14), (0, p2_0), (9, 0)]) gz_56_26 gm_57 rfl tv5 rd_4 rfl rfl rfl rfl rfl (c_Lens_isPicked9 (d := (d + 1)) (x0 := v5) (x1 := v14) (x2 := p2_0) tv5 (by omega) (by omega) (by omega) (by omega) (by first | assumption | exact no_such_saying | exact Fp_told (by omega) (by omega) | omega | (subst_vars; omega) | omega) (fun xp18 => ?_) (fun w19 xp20 => ?_))
          ·
            show wp l rho (d + 2) 56 29 [(2, 82), (0, p2_0), (0, v14)] [(0, 0)] h2_0 Q
            have np := xp18
            have npk : ¬ PkS h2_0 p2_0 v14 := fun ⟨i, a, b, d⟩ => xp18 i a b (by rw [s5e]; exact d)
            refine w_ifeq (t := 38) gz_56_29 rfl (fun u21 => ?_) (fun u21 => by exfalso; omega)
            refine w_aload_n gz_56_38 rfl ?_
            refine v_getR (j := 2) gz_56_39 rfl is_82 rd_5 rfl (fun v22 ev22 tv22 => ?_)
            have zv22 : v5 = v22 := (ev22.trans ev5.symm).symm
            subst zv22
            refine w_iload_n gz_56_42 rfl ?_
            refine w_iinc (ls' := [(2, 82), (0, (p2_0 + 1)), (0, v14)]) gz_56_43 rfl gm_56 rfl rfl rfl ⟨by omega, by omega⟩ ?_
            refine w_iload_n gz_56_46 rfl ?_
            have ce23 : h2_0 82 2 = v5 := ev5.symm
            have sv : v5 = h2_0 82 2 := by omega
            have pk7 := n_Pk_2_0
            refine v_knowA (x := (v5 + 5)) (ix_4_5 tv5) rd_36 (fun kA => ?_)
            have hp7 : p2_0 ≤ 7 := by
              rw [sv] at kA s5a
              have np2 := np
              rw [sv] at np2
              exact pick7 (f := fun i => h2_0 (h2_0 82 2 + 5) (h2_0 (h2_0 82 2) 9 * 8 + i)) (by omega) (fun i a b => kA _ (by omega) (by omega)) (fun i j a b c => pk7 i j a b c) (by omega) (by omega) (fun i a b => np2 i a b)
            have hi24 : 0 ≤ p2_0 := by omega
            have hi25 : p2_0 ≤ 7 := by omega
            refine w_inv (k := 0) (as := [(0, v14), (0, p2_0)]) (r := []) (x := v5) (ls0 := [(2, v5), (0, p2_0), (0, v14)]) gz_56_47 gm_58 rfl tv5 rd_4 rfl rfl rfl rfl rfl ?_
            refine w_aload_n gz_58_0 rfl ?_
            refine w_getX (v := (v5 + 5)) gz_58_1 tv5 rd_4 rfl (by decide) rfl ?_
            refine w_aload_n gz_58_4 rfl ?_
            refine v_getI (j := 9) gz_58_5 rfl tv5 rd_4 rfl (fun v27 ev27 pv27 qv27 => ?_)
            refine w_bipush gz_58_8 (by decide) ?_
            refine w_imul gz_58_10 ⟨by omega, by omega⟩ ?_
            refine w_iload_n gz_58_11 rfl ?_
            refine w_iadd gz_58_12 ⟨by omega, by omega⟩ ?_
            refine w_iload_n gz_58_13 rfl ?_
            have hi28 : 0 ≤ ((v27 * 8) + p2_0) := by omega
            have hi29 : ((v27 * 8) + p2_0) ≤ 47 := by omega
            refine w_iast gz_58_14 (ix_4_5 tv5) rd_36 (by omega) (by omega) (by omega) (by omega) (fun h30 fh30 => ?_)
            have gh30 : my_fr [(4, 4), (4, 5), (4, 9), (5, 5), (5, 6), (5, 7), (5, 8), (5, 9), (32, -1), (33, -1), (34, -1), (35, -1), (36, -1), (37, -1), (39, -1)] h h30 := my_fr.up gh_2_0 (ix_4_5 tv5) fh30 rfl
            have Ln_h30 : Ln h30 := Ln_ag (my_ag.up fh30 (ix_4_5 tv5) rfl) n_Ln_2_0
            have Sp_h30 : Sp h30 wv := Sp_ag (my_ag.up fh30 (ix_4_5 tv5) rfl) hwv n_Ln_2_0 n_Sp_2_0
            have St5_h30 : St5 h30 := St5_ag (my_ag.up fh30 (ix_4_5 tv5) rfl) n_Ln_2_0 n_St5_2_0
            have Al_h30 : Al h30 := Al_ag (my_ag.up fh30 (ix_4_5 tv5) rfl) n_Al_2_0
            have Cu_h30 : Cu h30 := Cu_ag (my_ag.up fh30 (ix_4_5 tv5) rfl) n_Cu_2_0
            have Lo_h30 : Lo h h30 := Lo_ag (my_ag.up fh30 (ix_4_5 tv5) rfl) n_Ln_2_0 n_Lo_2_0
            have AgY_h30 : my_ag LyF h h30 := AgY_ag (my_ag.up fh30 (ix_4_5 tv5) rfl) n_AgY_2_0
            refine w_vret gz_58_15 gm_58 ?_
            show wp l rho (d + 2) 56 50 [(2, 82), (0, (p2_0 + 1)), (0, v14)] [] h30 Q
            have Pk_h30t31 : Pk h30 (p2_0 + 1) := Pk_add n_Ln_2_0 n_Pk_2_0 sv (by omega) fh30 np
            have pks : ∀ u : Int, PkS h30 (p2_0 + 1) u ↔ (PkS h2_0 p2_0 u ∨ u = v14) := PkS_up n_Ln_2_0 sv (by omega) (by omega) fh30
            have LoZ_h30t32 : LoZ h h30 := LoZ_up fh30 sv (by omega) (by omega) n_Ln_2_0 n_LoZ_2_0
            refine w_aload_n gz_56_50 rfl ?_
            refine w_inv (k := 2) (as := []) (r := []) (x := 82) (ls0 := [(2, 82), (9, 0), (9, 0)]) gz_56_51 gm_37 rfl is_82 rd_5 rfl rfl rfl rfl rfl (c_Reader_nextToken9_f0 (d := d)  (((my_up_role fh30 is_82 (ix_4_5 tv5) rfl).trans ev12.symm).trans (by omega)) Al_h30 (fun h33 frh33 w34 w35 w36 xp37 xp38 Al_h33t39 Cu_h33t40 => ?_))
            have gh33 : my_fr [(4, 4), (4, 5), (4, 9), (5, 5), (5, 6), (5, 7), (5, 8), (5, 9), (32, -1), (33, -1), (34, -1), (35, -1), (36, -1), (37, -1), (39, -1)] h h33 := my_fr.tr gh30 (frh33.mo rfl)
            have Ln_h33 : Ln h33 := Ln_ag (my_ag.fr frh33 rfl) Ln_h30
            have Sp_h33 : Sp h33 wv := Sp_ag (my_ag.fr frh33 rfl) hwv Ln_h30 Sp_h30
            have St5_h33 : St5 h33 := St5_ag (my_ag.fr frh33 rfl) Ln_h30 St5_h30
            have Lo_h33 : Lo h h33 := Lo_ag (my_ag.fr frh33 rfl) Ln_h30 Lo_h30
            have AgY_h33 : my_ag LyF h h33 := AgY_ag (my_ag.fr frh33 rfl) AgY_h30
            have Pk_h33 : Pk h33 (p2_0 + 1) := Pk_ag (my_ag.fr frh33 rfl) Ln_h30 Pk_h30t31
            have LoZ_h33 : LoZ h h33 := LoZ_ag (my_ag.fr frh33 rfl) Ln_h30 LoZ_h30t32
            show wp l rho (d + 2) 56 54 [(2, 82), (0, (p2_0 + 1)), (0, v14)] [] h33 Q
            have xc41 := xp37 Cu_h30
            have tE42 : cs h30 = cs h := cs_eq (fun j => my_fr.at gh30 is_92 rfl) (my_fr.at gh30 is_82 rfl)
            rw [tE42] at xc41
            have ps43 : h30 82 7 = h2_0 82 7 := ((my_up_role fh30 is_82 (ix_4_5 tv5) rfl).trans (rfl : h2_0 82 7 = h2_0 82 7))
            rw [ps43] at xc41
            have ck44 := Cu_s Cu_h33t40
            rw [show cs h33 = cs h from cs_eq (fun j => my_fr.at gh33 is_92 rfl) (my_fr.at gh33 is_82 rfl)] at ck44
            rw [show h33 82 7 = (sN (cs h) ((h2_0 82 7))) from xc41] at ck44
            have cv45 := Cu_v Cu_h33t40
            rw [show cs h33 = cs h from cs_eq (fun j => my_fr.at gh33 is_92 rfl) (my_fr.at gh33 is_82 rfl)] at cv45
            rw [show h33 82 7 = (sN (cs h) ((h2_0 82 7))) from xc41] at cv45
            have fr5 : ∀ j : Int, h33 (h 82 2 + 5) j = h30 (h 82 2 + 5) j := fun j => my_fr.at frh33 (pix_5q n_Ln.2.2.2.1) rfl
            have fi9 : FwI h h33 (p2_0 + 1) := FwI_s fi_2_0 fh30 sE7 (by have a := f9_2_0; rw [← sE7] at a ⊢; omega) (by omega) fr5 (by assumption) (by omega) (by omega) (by omega) rfl
            have pk2 : ∀ u : Int, PkS h33 (p2_0 + 1) u ↔ PkS h30 (p2_0 + 1) u := fun u => PkS_ag (my_ag.fr frh33 rfl) Ln_h30 u
            refine w_aload_n gz_56_54 rfl ?_
            refine v_getI (j := 6) gz_56_55 rfl is_82 rd_5 rfl (fun v46 ev46 pv46 qv46 => ?_)
            have zv46 := ev46.trans (rfl : h33 82 6 = h33 82 6)
            refine w_iconst gz_56_58 (by decide) ?_
            refine w_iceq (t := 68) gz_56_59 rfl (fun u47 => ?_) (fun u47 => ?_)
            ·
              refine w_aload_n gz_56_68 rfl ?_
              refine w_inv (k := 2) (as := []) (r := []) (x := 82) (ls0 := [(2, 82), (9, 0), (9, 0)]) gz_56_69 gm_37 rfl is_82 rd_5 rfl rfl rfl rfl rfl (c_Reader_nextToken9_f0 (d := d)  (((my_fr.at frh33 is_82 rfl).trans ((my_up_role fh30 is_82 (ix_4_5 tv5) rfl).trans ev12.symm)).trans (by omega)) Al_h33t39 (fun h48 frh48 w49 w50 w51 xp52 xp53 Al_h48t54 Cu_h48t55 => ?_))
              have gh48 : my_fr [(4, 4), (4, 5), (4, 9), (5, 5), (5, 6), (5, 7), (5, 8), (5, 9), (32, -1), (33, -1), (34, -1), (35, -1), (36, -1), (37, -1), (39, -1)] h h48 := my_fr.tr gh33 (frh48.mo rfl)
              have Ln_h48 : Ln h48 := Ln_ag (my_ag.fr frh48 rfl) Ln_h33
              have Sp_h48 : Sp h48 wv := Sp_ag (my_ag.fr frh48 rfl) hwv Ln_h33 Sp_h33
              have St5_h48 : St5 h48 := St5_ag (my_ag.fr frh48 rfl) Ln_h33 St5_h33
              have Lo_h48 : Lo h h48 := Lo_ag (my_ag.fr frh48 rfl) Ln_h33 Lo_h33
              have AgY_h48 : my_ag LyF h h48 := AgY_ag (my_ag.fr frh48 rfl) AgY_h33
              have Pk_h48 : Pk h48 (p2_0 + 1) := Pk_ag (my_ag.fr frh48 rfl) Ln_h33 Pk_h33
              have LoZ_h48 : LoZ h h48 := LoZ_ag (my_ag.fr frh48 rfl) Ln_h33 LoZ_h33
              show wp l rho (d + 2) 56 72 [(2, 82), (0, (p2_0 + 1)), (0, v14)] [] h48 Q
              have xc56 := xp52 Cu_h33t40
              have tE57 : cs h33 = cs h := cs_eq (fun j => my_fr.at gh33 is_92 rfl) (my_fr.at gh33 is_82 rfl)
              rw [tE57] at xc56
              have ps58 : h33 82 7 = (sN (cs h) ((h2_0 82 7))) := xc41
              rw [ps58] at xc56
              have ck59 := Cu_s Cu_h48t55
              rw [show cs h48 = cs h from cs_eq (fun j => my_fr.at gh48 is_92 rfl) (my_fr.at gh48 is_82 rfl)] at ck59
              rw [show h48 82 7 = (sN (cs h) (((sN (cs h) ((h2_0 82 7)))))) from xc56] at ck59
              have cv60 := Cu_v Cu_h48t55
              rw [show cs h48 = cs h from cs_eq (fun j => my_fr.at gh48 is_92 rfl) (my_fr.at gh48 is_82 rfl)] at cv60
              rw [show h48 82 7 = (sN (cs h) (((sN (cs h) ((h2_0 82 7)))))) from xc56] at cv60
              have fr6 : ∀ j : Int, h48 (h 82 2 + 5) j = h33 (h 82 2 + 5) j := fun j => my_fr.at frh48 (pix_5q n_Ln.2.2.2.1) rfl
              refine w_aload_n gz_56_72 rfl ?_
              refine v_getR (j := 2) gz_56_73 rfl is_82 rd_5 rfl (fun v61 ev61 tv61 => ?_)
              have zv61 : v5 = v61 := (ev61.trans ((my_fr.at frh48 is_82 rfl).trans ((my_fr.at frh33 is_82 rfl).trans ((my_up_role fh30 is_82 (ix_4_5 tv5) rfl).trans ev5.symm)))).symm
              subst zv61
              refine w_iload_n gz_56_76 rfl ?_
              have ce62 : h48 82 2 = v5 := ((my_fr.at frh48 is_82 rfl).trans ((my_fr.at frh33 is_82 rfl).trans ((my_up_role fh30 is_82 (ix_4_5 tv5) rfl).trans ev5.symm)))
              have s5a := St5_h48
              have s5e : v5 = h48 82 2 := by first | assumption | omega
              unfold St5 at s5a
              rw [← s5e] at s5a
              have ce63 : h48 82 2 = v5 := ((my_fr.at frh48 is_82 rfl).trans ((my_fr.at frh33 is_82 rfl).trans ((my_up_role fh30 is_82 (ix_4_5 tv5) rfl).trans ev5.symm)))
              have ce64 : h48 v5 1 = h2_0 v5 1 := ((my_fr.at frh48 tv5 rfl).trans ((my_fr.at frh33 tv5 rfl).trans ((my_up_role fh30 tv5 (ix_4_5 tv5) rfl).trans (rfl : h2_0 v5 1 = h2_0 v5 1))))
              have ce65 : h48 v5 3 = h2_0 v5 3 := ((my_fr.at frh48 tv5 rfl).trans ((my_fr.at frh33 tv5 rfl).trans ((my_up_role fh30 tv5 (ix_4_5 tv5) rfl).trans (rfl : h2_0 v5 3 = h2_0 v5 3))))
              have ce66 : h48 v5 4 = h2_0 v5 4 := ((my_fr.at frh48 tv5 rfl).trans ((my_fr.at frh33 tv5 rfl).trans ((my_up_role fh30 tv5 (ix_4_5 tv5) rfl).trans (rfl : h2_0 v5 4 = h2_0 v5 4))))
              have ce67 : h48 v5 9 = h2_0 v5 9 := ((my_fr.at frh48 tv5 rfl).trans ((my_fr.at frh33 tv5 rfl).trans ((my_up_role fh30 tv5 (ix_4_5 tv5) rfl).trans (rfl : h2_0 v5 9 = h2_0 v5 9))))
              have sE : v5 = h 82 2 := by omega
              have eS1 : h48 v5 1 = h v5 1 := by
                have a := f1_2_0
                rw [← sE] at a
                omega
              have eS3 : h48 v5 3 = h v5 3 := by
                have a := f3_2_0
                rw [← sE] at a
                omega
              have eS4 : h48 v5 4 = h v5 4 := by
                have a := f4_2_0
                rw [← sE] at a
                omega
              have eS9 : h48 v5 9 = h v5 9 := by
                have a := f9_2_0
                rw [← sE] at a
                omega
              have ay9 := AgY_h48
              have hi68 : 1 ≤ (p2_0 + 1) := by omega
              have hi69 : (p2_0 + 1) ≤ 8 := by omega
              refine w_inv (k := 1) (as := [(0, (p2_0 + 1))]) (r := []) (x := v5) (ls0 := [(2, v5), (0, (p2_0 + 1)), (9, 0)]) gz_56_77 gm_59 rfl tv5 rd_4 rfl rfl rfl rfl rfl (c_Lens_addFew7 (d := d) (x0 := v5) (x1 := (p2_0 + 1)) tv5 (by omega) (by omega) (by first | assumption | exact no_such_saying | exact Fp_told (by omega) (by omega) | omega | (subst_vars; omega) | omega) (fun h70 frh70 fxh70 w71 w72 w73 w74 xp75 xp76 xp77 xp78 => ?_))
              have gh70 : my_fr [(4, 4), (4, 5), (4, 9), (5, 5), (5, 6), (5, 7), (5, 8), (5, 9), (32, -1), (33, -1), (34, -1), (35, -1), (36, -1), (37, -1), (39, -1)] h h70 := my_fr.tr gh48 (frh70.mo rfl)
              have Ln_h70 : Ln h70 := Ln_fx fxh70 (by first | assumption | omega) Ln_h48
              have Lo_h70 : Lo h h70 := Lo_fx fxh70 (by first | assumption | omega) Ln_h48 Lo_h48
              have LoZ_h70 : LoZ h h70 := LoZ_fx fxh70 (by first | assumption | omega) Ln_h48 LoZ_h48
              have Al_h70 : Al h70 := Al_ag (my_ag.fr frh70 rfl) Al_h48t54
              have Cu_h70 : Cu h70 := Cu_ag (my_ag.fr frh70 rfl) Cu_h48t55
              show wp l rho (d + 2) 56 80 [(2, 82), (0, (p2_0 + 1)), (0, v14)] [] h70 Q
              have pn9 : PnI h h70 3 0 0 (p2_0 + 1) := PnI_few ay9 sE n_Ln.2.2.2.1 (fun j q => (fr6 j).trans (fi9.1 j q)) xp76 xp77
              have fv9 : FewV (cs h) (h 82 7) (p2_0 + 1) (fun j => h70 (h 82 2 + 5) (8 * h (h 82 2) 9 + j)) := fun j a b => by
                show h70 (h 82 2 + 5) (8 * h (h 82 2) 9 + j) = _ ∧ _
                rw [← sE, xp78, sE, fr6]
                exact fi9.2.1 j a b
              have ce79 : h70 82 2 = v5 := ((my_fr.at frh70 is_82 rfl).trans ((my_fr.at frh48 is_82 rfl).trans ((my_fr.at frh33 is_82 rfl).trans ((my_up_role fh30 is_82 (ix_4_5 tv5) rfl).trans ev5.symm))))
              have Sp_h70t80 : Sp h70 wv := Sp_add fxh70 (by first | assumption | omega) hwv Ln_h48 Sp_h48 xp75 (by have := St5_h48.1; omega) (by omega) (by omega)
              have std := Std_add xp75 sE (by omega) eS3 eS4 eS9 eS1
              have psR : h70 82 7 = (sN (cs h) (((sN (cs h) ((h2_0 82 7)))))) := ((my_fr.at frh70 is_82 rfl).trans xc56)
              have npsR : cs h70 = cs h := cs_eq (fun j => my_fr.at gh70 is_92 rfl) (my_fr.at gh70 is_82 rfl)
              have c81 := ((my_fr.at frh70 is_82 rfl).trans ((my_fr.at frh48 is_82 rfl).trans ((my_fr.at frh33 is_82 rfl).trans ((my_up_role fh30 is_82 (ix_4_5 tv5) rfl).trans ev12.symm))))
              exact w_vret gz_56_80 gm_56 (k1 h70 (gh70) (by omega) (by first | exact ⟨_, fv9, pn9⟩ | exact LoZ_h70 | exact Lo_h70 | exact ⟨std.1, std.2.1, rfl, std.2.2.2⟩ | exact fwI_e fw_2_0 rfl (by omega) (by omega) (by omega) npk (by omega) (by omega) psR std.2.2.1 | exact fwI_3 fw_2_0 rfl (by omega) (by omega) (by omega) ipk (by omega) | exact fwI_1 fw_2_0 rfl (by first | exact Or.inl ⟨by omega, by omega⟩ | exact Or.inr (Or.inl ⟨by omega, by omega, by omega⟩)) | omega) (by first | exact ⟨_, fv9, pn9⟩ | exact LoZ_h70 | exact Lo_h70 | exact ⟨std.1, std.2.1, rfl, std.2.2.2⟩ | exact fwI_e fw_2_0 rfl (by omega) (by omega) (by omega) npk (by omega) (by omega) psR std.2.2.1 | exact fwI_3 fw_2_0 rfl (by omega) (by omega) (by omega) ipk (by omega) | exact fwI_1 fw_2_0 rfl (by first | exact Or.inl ⟨by omega, by omega⟩ | exact Or.inr (Or.inl ⟨by omega, by omega, by omega⟩)) | omega) (by first | exact ⟨_, fv9, pn9⟩ | exact LoZ_h70 | exact Lo_h70 | exact ⟨std.1, std.2.1, rfl, std.2.2.2⟩ | exact fwI_e fw_2_0 rfl (by omega) (by omega) (by omega) npk (by omega) (by omega) psR std.2.2.1 | exact fwI_3 fw_2_0 rfl (by omega) (by omega) (by omega) ipk (by omega) | exact fwI_1 fw_2_0 rfl (by first | exact Or.inl ⟨by omega, by omega⟩ | exact Or.inr (Or.inl ⟨by omega, by omega, by omega⟩)) | omega) (by first | exact ⟨_, fv9, pn9⟩ | exact LoZ_h70 | exact Lo_h70 | exact ⟨std.1, std.2.1, rfl, std.2.2.2⟩ | exact fwI_e fw_2_0 rfl (by omega) (by omega) (by omega) npk (by omega) (by omega) psR std.2.2.1 | exact fwI_3 fw_2_0 rfl (by omega) (by omega) (by omega) ipk (by omega) | exact fwI_1 fw_2_0 rfl (by first | exact Or.inl ⟨by omega, by omega⟩ | exact Or.inr (Or.inl ⟨by omega, by omega, by omega⟩)) | omega) (by first | exact ⟨_, fv9, pn9⟩ | exact LoZ_h70 | exact Lo_h70 | exact ⟨std.1, std.2.1, rfl, std.2.2.2⟩ | exact fwI_e fw_2_0 rfl (by omega) (by omega) (by omega) npk (by omega) (by omega) psR std.2.2.1 | exact fwI_3 fw_2_0 rfl (by omega) (by omega) (by omega) ipk (by omega) | exact fwI_1 fw_2_0 rfl (by first | exact Or.inl ⟨by omega, by omega⟩ | exact Or.inr (Or.inl ⟨by omega, by omega, by omega⟩)) | omega) Ln_h70 Sp_h70t80 Al_h70 Cu_h70)
            ·
              refine w_iload_n gz_56_62 rfl ?_
              refine w_bipush gz_56_63 (by decide) ?_
              refine w_icle (t := 2) gz_56_65 rfl (fun u82 => ?_) (fun u82 => by exfalso; omega)
              have psJ : h33 82 7 = (sN (cs h) ((h2_0 82 7))) := xc41
              have npsJ : cs h33 = cs h := cs_eq (fun j => my_fr.at gh33 is_92 rfl) (my_fr.at gh33 is_82 rfl)
              have ce83 : h33 82 2 = v5 := ((my_fr.at frh33 is_82 rfl).trans ((my_up_role fh30 is_82 (ix_4_5 tv5) rfl).trans ev5.symm))
              have hL : my_is 4 (h 82 2) := n_Ln.2.2.2.1
              have ce84 : h33 v5 1 = h2_0 v5 1 := ((my_fr.at frh33 tv5 rfl).trans ((my_up_role fh30 tv5 (ix_4_5 tv5) rfl).trans (rfl : h2_0 v5 1 = h2_0 v5 1)))
              have ce85 : h33 v5 3 = h2_0 v5 3 := ((my_fr.at frh33 tv5 rfl).trans ((my_up_role fh30 tv5 (ix_4_5 tv5) rfl).trans (rfl : h2_0 v5 3 = h2_0 v5 3)))
              have ce86 : h33 v5 4 = h2_0 v5 4 := ((my_fr.at frh33 tv5 rfl).trans ((my_up_role fh30 tv5 (ix_4_5 tv5) rfl).trans (rfl : h2_0 v5 4 = h2_0 v5 4)))
              have ce87 : h33 v5 9 = h2_0 v5 9 := ((my_fr.at frh33 tv5 rfl).trans ((my_up_role fh30 tv5 (ix_4_5 tv5) rfl).trans (rfl : h2_0 v5 9 = h2_0 v5 9)))
              refine w_weak (ls' := [(2, 82), (0, (p2_0 + 1)), (9, 0)]) (wk_e (wk_e (wk_9 wk_n))) ?_
              exact ih_2_0 ((p2_0 + 1)) h33 (gh33) (by omega) (by omega) (((my_fr.at frh33 is_82 rfl).trans ((my_up_role fh30 is_82 (ix_4_5 tv5) rfl).trans ev12.symm)).trans (by omega)) Ln_h33 Sp_h33 St5_h33 Al_h33t39 Cu_h33t40 Pk_h33 Lo_h33 AgY_h33 LoZ_h33 (by first | exact fwI_0 (by first | rfl | omega) | exact fwI_s fw_2_0 rfl (by omega) (by omega) (by omega) npk (by omega) psJ (fun u => (pk2 u).trans (pks u)) | omega) (by first | rfl | omega) (by first | rfl | omega | (have a := f1_2_0; rw [← sE7] at a ⊢; omega) | omega) (by first | rfl | omega | (have a := f3_2_0; rw [← sE7] at a ⊢; omega) | omega) (by first | rfl | omega | (have a := f4_2_0; rw [← sE7] at a ⊢; omega) | omega) (by first | rfl | omega | (have a := f9_2_0; rw [← sE7] at a ⊢; omega) | omega) (by first | exact fi9 | exact FwI_0 rfl (fun _ => rfl) rfl | assumption | omega) (by omega)
          ·
            show wp l rho (d + 2) 56 29 [(2, 82), (0, p2_0), (0, v14)] [(0, 1)] h2_0 Q
            have ipk : PkS h2_0 p2_0 v14 := by
              obtain ⟨i, a, b, d⟩ := xp20
              rw [s5e] at d
              exact ⟨i, a, b, d⟩
            refine w_ifeq (t := 38) gz_56_29 rfl (fun u88 => by exfalso; omega) (fun u88 => ?_)
            refine w_aload_n gz_56_32 rfl ?_
            refine w_iconst gz_56_33 (by decide) ?_
            refine w_inv (k := 0) (as := [(0, 3)]) (r := []) (x := 82) (ls0 := [(2, 82), (0, 3)]) gz_56_34 gm_42 rfl is_82 rd_5 rfl rfl rfl rfl rfl ?_
            refine w_aload_n gz_42_0 rfl ?_
            refine v_getI (j := 9) gz_42_1 rfl is_82 rd_5 rfl (fun v89 ev89 pv89 qv89 => ?_)
            have zv89 := ev89.trans ev12.symm
            refine w_ifne (t := 20) gz_42_4 rfl (fun u90 => by exfalso; omega) (fun u90 => ?_)
            refine w_aload_n gz_42_7 rfl ?_
            refine w_iload_n gz_42_8 rfl ?_
            refine w_bipush gz_42_9 (by decide) ?_
            refine w_aload_n gz_42_11 rfl ?_
            refine v_getI (j := 7) gz_42_12 rfl is_82 rd_5 rfl (fun v91 ev91 pv91 qv91 => ?_)
            refine w_imul gz_42_15 ⟨by omega, by omega⟩ ?_
            refine w_iadd gz_42_16 ⟨by omega, by omega⟩ ?_
            refine v_putI (j := 9) gz_42_17 rfl is_82 rd_5 rfl (by omega) (by omega) rfl (fun h92 fh92 => ?_)
            have gh92 : my_fr [(4, 4), (4, 5), (4, 9), (5, 5), (5, 6), (5, 7), (5, 8), (5, 9), (32, -1), (33, -1), (34, -1), (35, -1), (36, -1), (37, -1), (39, -1)] h h92 := my_fr.up gh_2_0 is_82 fh92 rfl
            have Ln_h92 : Ln h92 := Ln_ag (my_ag.up fh92 is_82 rfl) n_Ln_2_0
            have Sp_h92 : Sp h92 wv := Sp_ag (my_ag.up fh92 is_82 rfl) hwv n_Ln_2_0 n_Sp_2_0
            have St5_h92 : St5 h92 := St5_ag (my_ag.up fh92 is_82 rfl) n_Ln_2_0 n_St5_2_0
            have Al_h92 : Al h92 := Al_ag (my_ag.up fh92 is_82 rfl) n_Al_2_0
            have Cu_h92 : Cu h92 := Cu_ag (my_ag.up fh92 is_82 rfl) n_Cu_2_0
            have Pk_h92 : Pk h92 p2_0 := Pk_ag (my_ag.up fh92 is_82 rfl) n_Ln_2_0 n_Pk_2_0
            have Lo_h92 : Lo h h92 := Lo_ag (my_ag.up fh92 is_82 rfl) n_Ln_2_0 n_Lo_2_0
            have AgY_h92 : my_ag LyF h h92 := AgY_ag (my_ag.up fh92 is_82 rfl) n_AgY_2_0
            have LoZ_h92 : LoZ h h92 := LoZ_ag (my_ag.up fh92 is_82 rfl) n_Ln_2_0 n_LoZ_2_0
            refine w_vret gz_42_20 gm_42 ?_
            show wp l rho (d + 2) 56 37 [(2, 82), (0, p2_0), (0, v14)] [] h92 Q
            have psR : h92 82 7 = h2_0 82 7 := ((my_up_fld fh92 (by decide)).trans (rfl : h2_0 82 7 = h2_0 82 7))
            have npsR : cs h92 = cs h := cs_eq (fun j => my_fr.at gh92 is_92 rfl) (my_fr.at gh92 is_82 rfl)
            have c93 := (my_up_self fh92)
            exact w_vret gz_56_37 gm_56 (k0 h92 (gh92) (by omega) (by omega) (by first | exact ⟨_, fv9, pn9⟩ | exact LoZ_h92 | exact Lo_h92 | exact ⟨std.1, std.2.1, rfl, std.2.2.2⟩ | exact fwI_e fw_2_0 rfl (by omega) (by omega) (by omega) npk (by omega) (by omega) psR std.2.2.1 | exact fwI_3 fw_2_0 rfl (by omega) (by omega) (by omega) ipk (by omega) | exact fwI_1 fw_2_0 rfl (by first | exact Or.inl ⟨by omega, by omega⟩ | exact Or.inr (Or.inl ⟨by omega, by omega, by omega⟩)) | omega) (by first | exact ⟨_, fv9, pn9⟩ | exact LoZ_h92 | exact Lo_h92 | exact ⟨std.1, std.2.1, rfl, std.2.2.2⟩ | exact fwI_e fw_2_0 rfl (by omega) (by omega) (by omega) npk (by omega) (by omega) psR std.2.2.1 | exact fwI_3 fw_2_0 rfl (by omega) (by omega) (by omega) ipk (by omega) | exact fwI_1 fw_2_0 rfl (by first | exact Or.inl ⟨by omega, by omega⟩ | exact Or.inr (Or.inl ⟨by omega, by omega, by omega⟩)) | omega) (by first | exact ⟨_, fv9, pn9⟩ | exact LoZ_h92 | exact Lo_h92 | exact ⟨std.1, std.2.1, rfl, std.2.2.2⟩ | exact fwI_e fw_2_0 rfl (by omega) (by omega) (by omega) npk (by omega) (by omega) psR std.2.2.1 | exact fwI_3 fw_2_0 rfl (by omega) (by omega) (by omega) ipk (by omega) | exact fwI_1 fw_2_0 rfl (by first | exact Or.inl ⟨by omega, by omega⟩ | exact Or.inr (Or.inl ⟨by omega, by omega, by omega⟩)) | omega) Ln_h92 Sp_h92 Al_h92 Cu_h92)
        ·
          refine w_aload_n gz_44_23 rfl ?_
          refine w_iconst gz_44_24 (by decide) ?_
          refine w_inv (k := 0) (as := [(0, 4)]) (r := []) (x := 82) (ls0 := [(2, 82), (0, 4)]) gz_44_25 gm_42 rfl is_82 rd_5 rfl rfl rfl rfl rfl ?_
          refine w_aload_n gz_42_0 rfl ?_
          refine v_getI (j := 9) gz_42_1 rfl is_82 rd_5 rfl (fun v94 ev94 pv94 qv94 => ?_)
          have zv94 := ev94.trans c82_9_2_0
          refine w_ifne (t := 20) gz_42_4 rfl (fun u95 => by exfalso; omega) (fun u95 => ?_)
          refine w_aload_n gz_42_7 rfl ?_
          refine w_iload_n gz_42_8 rfl ?_
          refine w_bipush gz_42_9 (by decide) ?_
          refine w_aload_n gz_42_11 rfl ?_
          refine v_getI (j := 7) gz_42_12 rfl is_82 rd_5 rfl (fun v96 ev96 pv96 qv96 => ?_)
          refine w_imul gz_42_15 ⟨by omega, by omega⟩ ?_
          refine w_iadd gz_42_16 ⟨by omega, by omega⟩ ?_
          refine v_putI (j := 9) gz_42_17 rfl is_82 rd_5 rfl (by omega) (by omega) rfl (fun h97 fh97 => ?_)
          have gh97 : my_fr [(4, 4), (4, 5), (4, 9), (5, 5), (5, 6), (5, 7), (5, 8), (5, 9), (32, -1), (33, -1), (34, -1), (35, -1), (36, -1), (37, -1), (39, -1)] h h97 := my_fr.up gh_2_0 is_82 fh97 rfl
          have Ln_h97 : Ln h97 := Ln_ag (my_ag.up fh97 is_82 rfl) n_Ln_2_0
          have Sp_h97 : Sp h97 wv := Sp_ag (my_ag.up fh97 is_82 rfl) hwv n_Ln_2_0 n_Sp_2_0
          have St5_h97 : St5 h97 := St5_ag (my_ag.up fh97 is_82 rfl) n_Ln_2_0 n_St5_2_0
          have Al_h97 : Al h97 := Al_ag (my_ag.up fh97 is_82 rfl) n_Al_2_0
          have Cu_h97 : Cu h97 := Cu_ag (my_ag.up fh97 is_82 rfl) n_Cu_2_0
          have Pk_h97 : Pk h97 p2_0 := Pk_ag (my_ag.up fh97 is_82 rfl) n_Ln_2_0 n_Pk_2_0
          have Lo_h97 : Lo h h97 := Lo_ag (my_ag.up fh97 is_82 rfl) n_Ln_2_0 n_Lo_2_0
          have AgY_h97 : my_ag LyF h h97 := AgY_ag (my_ag.up fh97 is_82 rfl) n_AgY_2_0
          have LoZ_h97 : LoZ h h97 := LoZ_ag (my_ag.up fh97 is_82 rfl) n_Ln_2_0 n_LoZ_2_0
          refine w_vret gz_42_20 gm_42 ?_
          show wp l rho (d + 1) 44 28 [(2, 82), (0, v7)] [] h97 _
          refine w_iconst gz_44_28 (by decide) ?_
          refine w_iret gz_44_29 gm_44 ?_
          show wp l rho (d + 2) 56 13 [(2, 82), (0, p2_0), (9, 0)] [(0, (-1))] h97 Q
          refine w_istore_n (ls' := [(2, 82), (0, p2_0), (0, (-1))]) gz_56_13 gm_56 rfl rfl rfl ?_
          refine w_iload_n gz_56_14 rfl ?_
          refine w_iconst gz_56_15 (by decide) ?_
          refine w_icne (t := 20) gz_56_16 rfl (fun u98 => by exfalso; omega) (fun u98 => ?_)
          have psR : h97 82 7 = h2_0 82 7 := ((my_up_fld fh97 (by decide)).trans (rfl : h2_0 82 7 = h2_0 82 7))
          have npsR : cs h97 = cs h := cs_eq (fun j => my_fr.at gh97 is_92 rfl) (my_fr.at gh97 is_82 rfl)
          have c99 := (my_up_self fh97)
          exact w_vret gz_56_19 gm_56 (k0 h97 (gh97) (by omega) (by omega) (by first | exact ⟨_, fv9, pn9⟩ | exact LoZ_h97 | exact Lo_h97 | exact ⟨std.1, std.2.1, rfl, std.2.2.2⟩ | exact fwI_e fw_2_0 rfl (by omega) (by omega) (by omega) npk (by omega) (by omega) psR std.2.2.1 | exact fwI_3 fw_2_0 rfl (by omega) (by omega) (by omega) ipk (by omega) | exact fwI_1 fw_2_0 rfl (by first | exact Or.inl ⟨by omega, by omega⟩ | exact Or.inr (Or.inl ⟨by omega, by omega, by omega⟩)) | omega) (by first | exact ⟨_, fv9, pn9⟩ | exact LoZ_h97 | exact Lo_h97 | exact ⟨std.1, std.2.1, rfl, std.2.2.2⟩ | exact fwI_e fw_2_0 rfl (by omega) (by omega) (by omega) npk (by omega) (by omega) psR std.2.2.1 | exact fwI_3 fw_2_0 rfl (by omega) (by omega) (by omega) ipk (by omega) | exact fwI_1 fw_2_0 rfl (by first | exact Or.inl ⟨by omega, by omega⟩ | exact Or.inr (Or.inl ⟨by omega, by omega, by omega⟩)) | omega) (by first | exact ⟨_, fv9, pn9⟩ | exact LoZ_h97 | exact Lo_h97 | exact ⟨std.1, std.2.1, rfl, std.2.2.2⟩ | exact fwI_e fw_2_0 rfl (by omega) (by omega) (by omega) npk (by omega) (by omega) psR std.2.2.1 | exact fwI_3 fw_2_0 rfl (by omega) (by omega) (by omega) ipk (by omega) | exact fwI_1 fw_2_0 rfl (by first | exact Or.inl ⟨by omega, by omega⟩ | exact Or.inr (Or.inl ⟨by omega, by omega, by omega⟩)) | omega) Ln_h97 Sp_h97 Al_h97 Cu_h97)
      ·
        refine w_aload_n gz_44_8 rfl ?_
        refine w_iconst gz_44_9 (by decide) ?_
        refine w_inv (k := 0) (as := [(0, 1)]) (r := []) (x := 82) (ls0 := [(2, 82), (0, 1)]) gz_44_10 gm_42 rfl is_82 rd_5 rfl rfl rfl rfl rfl ?_
        refine w_aload_n gz_42_0 rfl ?_
        refine v_getI (j := 9) gz_42_1 rfl is_82 rd_5 rfl (fun v100 ev100 pv100 qv100 => ?_)
        have zv100 := ev100.trans c82_9_2_0
        refine w_ifne (t := 20) gz_42_4 rfl (fun u101 => by exfalso; omega) (fun u101 => ?_)
        refine w_aload_n gz_42_7 rfl ?_
        refine w_iload_n gz_42_8 rfl ?_
        refine w_bipush gz_42_9 (by decide) ?_
        refine w_aload_n gz_42_11 rfl ?_
        refine v_getI (j := 7) gz_42_12 rfl is_82 rd_5 rfl (fun v102 ev102 pv102 qv102 => ?_)
        refine w_imul gz_42_15 ⟨by omega, by omega⟩ ?_
        refine w_iadd gz_42_16 ⟨by omega, by omega⟩ ?_
        refine v_putI (j := 9) gz_42_17 rfl is_82 rd_5 rfl (by omega) (by omega) rfl (fun h103 fh103 => ?_)
        have gh103 : my_fr [(4, 4), (4, 5), (4, 9), (5, 5), (5, 6), (5, 7), (5, 8), (5, 9), (32, -1), (33, -1), (34, -1), (35, -1), (36, -1), (37, -1), (39, -1)] h h103 := my_fr.up gh_2_0 is_82 fh103 rfl
        have Ln_h103 : Ln h103 := Ln_ag (my_ag.up fh103 is_82 rfl) n_Ln_2_0
        have Sp_h103 : Sp h103 wv := Sp_ag (my_ag.up fh103 is_82 rfl) hwv n_Ln_2_0 n_Sp_2_0
        have St5_h103 : St5 h103 := St5_ag (my_ag.up fh103 is_82 rfl) n_Ln_2_0 n_St5_2_0
        have Al_h103 : Al h103 := Al_ag (my_ag.up fh103 is_82 rfl) n_Al_2_0
        have Cu_h103 : Cu h103 := Cu_ag (my_ag.up fh103 is_82 rfl) n_Cu_2_0
        have Pk_h103 : Pk h103 p2_0 := Pk_ag (my_ag.up fh103 is_82 rfl) n_Ln_2_0 n_Pk_2_0
        have Lo_h103 : Lo h h103 := Lo_ag (my_ag.up fh103 is_82 rfl) n_Ln_2_0 n_Lo_2_0
        have AgY_h103 : my_ag LyF h h103 := AgY_ag (my_ag.up fh103 is_82 rfl) n_AgY_2_0
        have LoZ_h103 : LoZ h h103 := LoZ_ag (my_ag.up fh103 is_82 rfl) n_Ln_2_0 n_LoZ_2_0
        refine w_vret gz_42_20 gm_42 ?_
        show wp l rho (d + 1) 44 13 [(2, 82), (0, v7)] [] h103 _
        refine w_iconst gz_44_13 (by decide) ?_
        refine w_iret gz_44_14 gm_44 ?_
        show wp l rho (d + 2) 56 13 [(2, 82), (0, p2_0), (9, 0)] [(0, (-1))] h103 Q
        refine w_istore_n (ls' := [(2, 82), (0, p2_0), (0, (-1))]) gz_56_13 gm_56 rfl rfl rfl ?_
        refine w_iload_n gz_56_14 rfl ?_
        refine w_iconst gz_56_15 (by decide) ?_
        refine w_icne (t := 20) gz_56_16 rfl (fun u104 => by exfalso; omega) (fun u104 => ?_)
        have psR : h103 82 7 = h2_0 82 7 := ((my_up_fld fh103 (by decide)).trans (rfl : h2_0 82 7 = h2_0 82 7))
        have npsR : cs h103 = cs h := cs_eq (fun j => my_fr.at gh103 is_92 rfl) (my_fr.at gh103 is_82 rfl)
        have c105 := (my_up_self fh103)
        exact w_vret gz_56_19 gm_56 (k0 h103 (gh103) (by omega) (by omega) (by first | exact ⟨_, fv9, pn9⟩ | exact LoZ_h103 | exact Lo_h103 | exact ⟨std.1, std.2.1, rfl, std.2.2.2⟩ | exact fwI_e fw_2_0 rfl (by omega) (by omega) (by omega) npk (by omega) (by omega) psR std.2.2.1 | exact fwI_3 fw_2_0 rfl (by omega) (by omega) (by omega) ipk (by omega) | exact fwI_1 fw_2_0 rfl (by first | exact Or.inl ⟨by omega, by omega⟩ | exact Or.inr (Or.inl ⟨by omega, by omega, by omega⟩)) | omega) (by first | exact ⟨_, fv9, pn9⟩ | exact LoZ_h103 | exact Lo_h103 | exact ⟨std.1, std.2.1, rfl, std.2.2.2⟩ | exact fwI_e fw_2_0 rfl (by omega) (by omega) (by omega) npk (by omega) (by omega) psR std.2.2.1 | exact fwI_3 fw_2_0 rfl (by omega) (by omega) (by omega) ipk (by omega) | exact fwI_1 fw_2_0 rfl (by first | exact Or.inl ⟨by omega, by omega⟩ | exact Or.inr (Or.inl ⟨by omega, by omega, by omega⟩)) | omega) (by first | exact ⟨_, fv9, pn9⟩ | exact LoZ_h103 | exact Lo_h103 | exact ⟨std.1, std.2.1, rfl, std.2.2.2⟩ | exact fwI_e fw_2_0 rfl (by omega) (by omega) (by omega) npk (by omega) (by omega) psR std.2.2.1 | exact fwI_3 fw_2_0 rfl (by omega) (by omega) (by omega) ipk (by omega) | exact fwI_1 fw_2_0 rfl (by first | exact Or.inl ⟨by omega, by omega⟩ | exact Or.inr (Or.inl ⟨by omega, by omega, by omega⟩)) | omega) Ln_h103 Sp_h103 Al_h103 Cu_h103)
  refine w_iconst gz_56_0 (by decide) ?_
  refine w_istore_n (ls' := [(2, 82), (0, 0), (9, 0)]) gz_56_1 gm_56 rfl rfl rfl ?_
  have psJ : h 82 7 = h 82 7 := (rfl : h 82 7 = h 82 7)
  have npsJ : cs h = cs h := rfl
  have hL : my_is 4 (h 82 2) := n_Ln.2.2.2.1
  exact J2_0 9 (0) h (my_fr.rf) (by omega) (by omega) (cf.trans (by omega)) n_Ln n_Sp n_St5 n_Al n_Cu (fun i j a b c => absurd c (by omega)) (Lo_rf) (my_ag.rf : my_ag LyF h h) (LoZ_rf) (by first | exact fwI_0 (by first | rfl | omega) | exact fwI_s fw_2_0 rfl (by omega) (by omega) (by omega) npk (by omega) psJ (fun u => (pk2 u).trans (pks u)) | omega) (by first | rfl | omega) (by first | rfl | omega | (have a := f1_2_0; rw [← sE7] at a ⊢; omega) | omega) (by first | rfl | omega | (have a := f3_2_0; rw [← sE7] at a ⊢; omega) | omega) (by first | rfl | omega | (have a := f4_2_0; rw [← sE7] at a ⊢; omega) | omega) (by first | rfl | omega | (have a := f9_2_0; rw [← sE7] at a ⊢; omega) | omega) (by first | exact fi9 | exact FwI_0 rfl (fun _ => rfl) rfl | assumption | omega) (by omega)
theorem c_Reader_readJoin7_f0 {l : Launch} {rho : Nat → Int32} {d : Nat} {h : my_H} {Q : my_H → my_V → Prop} {wv : Int} (cf : h 82 9 = 0) (hwv : wv ≤ 5) (hwv0 : 0 ≤ wv) (n_Ln : Ln h) (n_Sp : Sp h wv) (n_St5 : St5 h) (n_Al : Al h) (n_Cu : Cu h) (k0 : ∀ (h' : my_H), my_fr [(4, 4), (4, 5), (4, 6), (4, 8), (4, 9), (5, 5), (5, 6), (5, 7), (5, 8), (5, 9), (32, -1), (33, -1), (34, -1), (35, -1), (37, -1)] h h' → 1 ≤ h' 82 9 → h' 82 9 ≤ 16005 → joinR (cs h) (h 2) (h 82 7) (h (h 82 2) 4) (h' 82 9) (h' 82 7) → Lo h h' → LoZ h h' → Ln h' → Sp h' wv → Al h' → Cu h' → Q h' (9, 0)) (k1 : ∀ (h' : my_H), my_fr [(4, 4), (4, 5), (4, 6), (4, 8), (4, 9), (5, 5), (5, 6), (5, 7), (5, 8), (5, 9), (32, -1), (33, -1), (34, -1), (35, -1), (37, -1)] h h' → h' 82 9 = 0 → joinR (cs h) (h 2) (h 82 7) (h (h 82 2) 4) (h' 82 9) (h' 82 7) → Std h h' (h (h 82 2) 4 + h 2 (sV (cs h) (h 82 7)) - 1) (h (h 82 2) 9 + 1) → Lo h h' → (∃ a b c : Int, (JoinV (cs h) (h 2) (h 82 7) a b c ∧ 0 ≤ a ∧ 0 ≤ b) ∧ PnI h h' 4 a b c) → LoZ h h' → Ln h' → Sp h' wv → Al h' → Cu h' → Q h' (9, 0)) : wp l rho (d + 6) 60 0 [(2, 82), (9, 0), (9, 0), (9, 0)] [] h Q := by
  have ck1 := Cu_s n_Cu
  have cv2 := Cu_v n_Cu
  refine w_aload_n gz_60_0 rfl ?_
  refine w_inv (k := 1) (as := []) (r := []) (x := 82) (ls0 := [(2, 82), (9, 0)]) gz_60_1 gm_43 rfl is_82 rd_5 rfl rfl rfl rfl rfl (c_Reader_wallNumber9_f0 (d := (d + 3))  (cf.trans (by omega)) n_Al n_Cu (fun h3 frh3 w4 w5 xp6 Al_h3t7 Cu_h3t8 => ?_) (fun h9 v10 frh9 w11 w12 w13 w14 w15 w16 xp17 xp18 xp19 xp20 Al_h9t21 Cu_h9t22 => ?_))
  ·
    have gh3 : my_fr [(4, 4), (4, 5), (4, 6), (4, 8), (4, 9), (5, 5), (5, 6), (5, 7), (5, 8), (5, 9), (32, -1), (33, -1), (34, -1), (35, -1), (37, -1)] h h3 := my_fr.tr my_fr.rf (frh3.mo rfl)
    have Ln_h3 : Ln h3 := Ln_ag (my_ag.fr frh3 rfl) n_Ln
    have Sp_h3 : Sp h3 wv := Sp_ag (my_ag.fr frh3 rfl) hwv n_Ln n_Sp
    have St5_h3 : St5 h3 := St5_ag (my_ag.fr frh3 rfl) n_Ln n_St5
    have Al_h3 : Al h3 := Al_ag (my_ag.fr frh3 rfl) n_Al
    have Cu_h3 : Cu h3 := Cu_ag (my_ag.fr frh3 rfl) n_Cu
    have Lo_h3 : Lo h h3 := Lo_ag (my_ag.fr frh3 rfl) n_Ln (Lo_rf)
    have AgZ_h3 : my_ag LzF h h3 := AgZ_ag (my_ag.fr frh3 rfl) (my_ag.rf : my_ag LzF h h)
    have LoZ_h3 : LoZ h h3 := LoZ_ag (my_ag.fr frh3 rfl) n_Ln (LoZ_rf)
    show wp l rho (d + 6) 60 4 [(2, 82), (9, 0), (9, 0), (9, 0)] [(0, (-1))] h3 Q
    have xw := xp6
    refine w_istore_n (ls' := [(2, 82), (0, (-1)), (9, 0), (9, 0)]) gz_60_4 gm_60 rfl rfl rfl ?_
    refine w_iload_n gz_60_5 rfl ?_
    refine w_iconst gz_60_6 (by decide) ?_
    refine w_icne (t := 11) gz_60_7 rfl (fun u23 => by exfalso; omega) (fun u23 => ?_)
    have psR : h3 82 7 = h 82 7 := ((my_fr.at frh3 is_82 rfl).trans (rfl : h 82 7 = h 82 7))
    have npsR : cs h3 = cs h := cs_eq (fun j => my_fr.at gh3 is_92 rfl) (my_fr.at gh3 is_82 rfl)
    have c24 := (rfl : h3 82 9 = h3 82 9)
    exact w_vret gz_60_10 gm_60 (k0 h3 (gh3) (by omega) (by omega) (by first | exact ⟨_, _, _, ⟨⟨by omega, by omega, by omega⟩, by omega, by omega⟩, pn9⟩ | exact LoZ_h3 | exact Lo_h3 | (rw [← w20]; exact std) | (unfold joinR; first | exact (by rcases xw with q | q | q; exact Or.inl ⟨q.1, by omega⟩; exact Or.inr (Or.inl ⟨q.1, q.2.1, by omega⟩); exact Or.inr (Or.inr ⟨q.1, q.2.1, Or.inl ⟨q.2.2.1, by omega⟩⟩)) | exact Or.inr (Or.inr ⟨by omega, by omega, Or.inr (Or.inr ⟨by omega, by omega, Or.inr ⟨by omega, Or.inr (Or.inr ⟨by omega, by omega, Or.inr ⟨by omega, by omega, by omega⟩⟩)⟩⟩)⟩) | exact Or.inr (Or.inr ⟨by omega, by omega, Or.inr (Or.inr ⟨by omega, by omega, Or.inr ⟨by omega, Or.inr (Or.inr ⟨by omega, by omega, Or.inl ⟨by omega, by omega⟩⟩)⟩⟩)⟩) | exact Or.inr (Or.inr ⟨by omega, by omega, Or.inr (Or.inr ⟨by omega, by omega, Or.inr ⟨by omega, or_assoc.mp (Or.inl (by omega))⟩⟩)⟩) | exact Or.inr (Or.inr ⟨by omega, by omega, Or.inr (Or.inr ⟨by omega, by omega, Or.inl ⟨by omega, by omega⟩⟩)⟩) | exact Or.inr (Or.inr ⟨by omega, by omega, Or.inr (Or.inl ⟨by omega, by omega, by omega⟩)⟩) | exact Or.inr (Or.inr ⟨by omega, by omega, Or.inl ⟨by omega, by omega⟩⟩) | exact or_assoc.mp (Or.inl (by omega))) | omega) (by first | exact ⟨_, _, _, ⟨⟨by omega, by omega, by omega⟩, by omega, by omega⟩, pn9⟩ | exact LoZ_h3 | exact Lo_h3 | (rw [← w20]; exact std) | (unfold joinR; first | exact (by rcases xw with q | q | q; exact Or.inl ⟨q.1, by omega⟩; exact Or.inr (Or.inl ⟨q.1, q.2.1, by omega⟩); exact Or.inr (Or.inr ⟨q.1, q.2.1, Or.inl ⟨q.2.2.1, by omega⟩⟩)) | exact Or.inr (Or.inr ⟨by omega, by omega, Or.inr (Or.inr ⟨by omega, by omega, Or.inr ⟨by omega, Or.inr (Or.inr ⟨by omega, by omega, Or.inr ⟨by omega, by omega, by omega⟩⟩)⟩⟩)⟩) | exact Or.inr (Or.inr ⟨by omega, by omega, Or.inr (Or.inr ⟨by omega, by omega, Or.inr ⟨by omega, Or.inr (Or.inr ⟨by omega, by omega, Or.inl ⟨by omega, by omega⟩⟩)⟩⟩)⟩) | exact Or.inr (Or.inr ⟨by omega, by omega, Or.inr (Or.inr ⟨by omega, by omega, Or.inr ⟨by omega, or_assoc.mp (Or.inl (by omega))⟩⟩)⟩) | exact Or.inr (Or.inr ⟨by omega, by omega, Or.inr (Or.inr ⟨by omega, by omega, Or.inl ⟨by omega, by omega⟩⟩)⟩) | exact Or.inr (Or.inr ⟨by omega, by omega, Or.inr (Or.inl ⟨by omega, by omega, by omega⟩)⟩) | exact Or.inr (Or.inr ⟨by omega, by omega, Or.inl ⟨by omega, by omega⟩⟩) | exact or_assoc.mp (Or.inl (by omega))) | omega) (by first | exact ⟨_, _, _, ⟨⟨by omega, by omega, by omega⟩, by omega, by omega⟩, pn9⟩ | exact LoZ_h3 | exact Lo_h3 | (rw [← w20]; exact std) | (unfold joinR; first | exact (by rcases xw with q | q | q; exact Or.inl ⟨q.1, by omega⟩; exact Or.inr (Or.inl ⟨q.1, q.2.1, by omega⟩); exact Or.inr (Or.inr ⟨q.1, q.2.1, Or.inl ⟨q.2.2.1, by omega⟩⟩)) | exact Or.inr (Or.inr ⟨by omega, by omega, Or.inr (Or.inr ⟨by omega, by omega, Or.inr ⟨by omega, Or.inr (Or.inr ⟨by omega, by omega, Or.inr ⟨by omega, by omega, by omega⟩⟩)⟩⟩)⟩) | exact Or.inr (Or.inr ⟨by omega, by omega, Or.inr (Or.inr ⟨by omega, by omega, Or.inr ⟨by omega, Or.inr (Or.inr ⟨by omega, by omega, Or.inl ⟨by omega, by omega⟩⟩)⟩⟩)⟩) | exact Or.inr (Or.inr ⟨by omega, by omega, Or.inr (Or.inr ⟨by omega, by omega, Or.inr ⟨by omega, or_assoc.mp (Or.inl (by omega))⟩⟩)⟩) | exact Or.inr (Or.inr ⟨by omega, by omega, Or.inr (Or.inr ⟨by omega, by omega, Or.inl ⟨by omega, by omega⟩⟩)⟩) | exact Or.inr (Or.inr ⟨by omega, by omega, Or.inr (Or.inl ⟨by omega, by omega, by omega⟩)⟩) | exact Or.inr (Or.inr ⟨by omega, by omega, Or.inl ⟨by omega, by omega⟩⟩) | exact or_assoc.mp (Or.inl (by omega))) | omega) Ln_h3 Sp_h3 Al_h3t7 Cu_h3t8)
  ·
    have gh9 : my_fr [(4, 4), (4, 5), (4, 6), (4, 8), (4, 9), (5, 5), (5, 6), (5, 7), (5, 8), (5, 9), (32, -1), (33, -1), (34, -1), (35, -1), (37, -1)] h h9 := my_fr.tr my_fr.rf (frh9.mo rfl)
    have Ln_h9 : Ln h9 := Ln_ag (my_ag.fr frh9 rfl) n_Ln
    have Sp_h9 : Sp h9 wv := Sp_ag (my_ag.fr frh9 rfl) hwv n_Ln n_Sp
    have St5_h9 : St5 h9 := St5_ag (my_ag.fr frh9 rfl) n_Ln n_St5
    have Al_h9 : Al h9 := Al_ag (my_ag.fr frh9 rfl) n_Al
    have Cu_h9 : Cu h9 := Cu_ag (my_ag.fr frh9 rfl) n_Cu
    have Lo_h9 : Lo h h9 := Lo_ag (my_ag.fr frh9 rfl) n_Ln (Lo_rf)
    have AgZ_h9 : my_ag LzF h h9 := AgZ_ag (my_ag.fr frh9 rfl) (my_ag.rf : my_ag LzF h h)
    have LoZ_h9 : LoZ h h9 := LoZ_ag (my_ag.fr frh9 rfl) n_Ln (LoZ_rf)
    show wp l rho (d + 6) 60 4 [(2, 82), (9, 0), (9, 0), (9, 0)] [(0, v10)] h9 Q
    refine w_istore_n (ls' := [(2, 82), (0, v10), (9, 0), (9, 0)]) gz_60_4 gm_60 rfl rfl rfl ?_
    refine w_iload_n gz_60_5 rfl ?_
    refine w_iconst gz_60_6 (by decide) ?_
    refine w_icne (t := 11) gz_60_7 rfl (fun u25 => ?_) (fun u25 => by exfalso; omega)
    refine w_aload_n gz_60_11 rfl ?_
    refine w_getX (v := 1) gz_60_12 is_82 rd_5 rfl (by decide) rfl ?_
    refine w_getX (v := 2) gz_60_15 is_1 rd_3 rfl (by decide) rfl ?_
    refine w_iload_n gz_60_18 rfl ?_
    refine w_iald gz_60_19 is_2 rd_25 (by omega) (by omega) (fun v28 ev28 pv28 qv28 => ?_)
    have w20 : v28 = h 2 (sV (cs h) (h 82 7)) := by
      rw [← show v10 = sV (cs h) (h 82 7) by omega]
      have z := my_fr.at (j := v10) gh9 is_2 rfl
      omega
    refine w_istore_n (ls' := [(2, 82), (0, v10), (0, v28), (9, 0)]) gz_60_20 gm_60 rfl rfl rfl ?_
    refine w_aload_n gz_60_21 rfl ?_
    have ce29 : h9 82 2 = h 82 2 := ((my_fr.at frh9 is_82 rfl).trans (rfl : h 82 2 = h 82 2))
    refine v_getR (j := 2) gz_60_22 rfl is_82 rd_5 rfl (fun v30 ev30 tv30 => ?_)
    have ce31 : h9 82 2 = v30 := ev30.symm
    have ce32 : h9 v30 4 = h v30 4 := ((my_fr.at frh9 tv30 rfl).trans (rfl : h v30 4 = h v30 4))
    have sE28 : v30 = h 82 2 := by first | assumption | omega
    refine v_getI (j := 4) gz_60_25 rfl tv30 rd_4 rfl (fun v33 ev33 pv33 qv33 => ?_)
    have c28 : v33 = h (h 82 2) 4 := by rw [← sE28]; omega
    refine w_iload_n gz_60_28 rfl ?_
    refine w_iadd gz_60_29 ⟨by omega, by omega⟩ ?_
    refine w_iconst gz_60_30 (by decide) ?_
    refine w_isub gz_60_31 ⟨by omega, by omega⟩ ?_
    refine w_bipush gz_60_32 (by decide) ?_
    refine w_icle (t := 43) gz_60_34 rfl (fun u34 => ?_) (fun u34 => ?_)
    ·
      refine w_aload_n gz_60_43 rfl ?_
      refine w_inv (k := 2) (as := []) (r := []) (x := 82) (ls0 := [(2, 82), (9, 0), (9, 0)]) gz_60_44 gm_37 rfl is_82 rd_5 rfl rfl rfl rfl rfl (c_Reader_nextToken9_f0 (d := (d + 4))  (w16.trans (by omega)) Al_h9t21 (fun h35 frh35 w36 w37 w38 xp39 xp40 Al_h35t41 Cu_h35t42 => ?_))
      have gh35 : my_fr [(4, 4), (4, 5), (4, 6), (4, 8), (4, 9), (5, 5), (5, 6), (5, 7), (5, 8), (5, 9), (32, -1), (33, -1), (34, -1), (35, -1), (37, -1)] h h35 := my_fr.tr gh9 (frh35.mo rfl)
      have Ln_h35 : Ln h35 := Ln_ag (my_ag.fr frh35 rfl) Ln_h9
      have Sp_h35 : Sp h35 wv := Sp_ag (my_ag.fr frh35 rfl) hwv Ln_h9 Sp_h9
      have St5_h35 : St5 h35 := St5_ag (my_ag.fr frh35 rfl) Ln_h9 St5_h9
      have Lo_h35 : Lo h h35 := Lo_ag (my_ag.fr frh35 rfl) Ln_h9 Lo_h9
      have AgZ_h35 : my_ag LzF h h35 := AgZ_ag (my_ag.fr frh35 rfl) AgZ_h9
      have LoZ_h35 : LoZ h h35 := LoZ_ag (my_ag.fr frh35 rfl) Ln_h9 LoZ_h9
      show wp l rho (d + 6) 60 47 [(2, 82), (0, v10), (0, v28), (9, 0)] [] h35 Q
      have xc43 := xp39 Cu_h9t22
      have tE44 : cs h9 = cs h := cs_eq (fun j => my_fr.at gh9 is_92 rfl) (my_fr.at gh9 is_82 rfl)
      rw [tE44] at xc43
      have ps45 : h9 82 7 = h 82 7 := ((my_fr.at frh9 is_82 rfl).trans (rfl : h 82 7 = h 82 7))
      rw [ps45] at xc43
      have ck46 := Cu_s Cu_h35t42
      rw [show cs h35 = cs h from cs_eq (fun j => my_fr.at gh35 is_92 rfl) (my_fr.at gh35 is_82 rfl)] at ck46
      rw [show h35 82 7 = (sN (cs h) ((h 82 7))) from xc43] at ck46
      have cv47 := Cu_v Cu_h35t42
      rw [show cs h35 = cs h from cs_eq (fun j => my_fr.at gh35 is_92 rfl) (my_fr.at gh35 is_82 rfl)] at cv47
      rw [show h35 82 7 = (sN (cs h) ((h 82 7))) from xc43] at cv47
      refine w_aload_n gz_60_47 rfl ?_
      refine w_ldcS gz_60_48 (by decide) ?_
      refine w_inv (k := 0) (as := [(3, ((12 : Nat) : Int))]) (r := []) (x := 82) (ls0 := [(2, 82), (3, ((12 : Nat) : Int))]) gz_60_50 gm_40 rfl is_82 rd_5 rfl rfl rfl rfl rfl (c_Reader_takeWord9_f0 (d := d) (x1 := ((12 : Nat) : Int)) (by decide) (((my_fr.at frh35 is_82 rfl).trans w16).trans (by omega)) Al_h35t41 Cu_h35t42 (fun h48 frh48 w49 w50 xp51 xp52 Al_h48t53 Cu_h48t54 => ?_) (fun h55 frh55 w56 xp57 xp58 Al_h55t59 Cu_h55t60 => ?_))
      ·
        have gh48 : my_fr [(4, 4), (4, 5), (4, 6), (4, 8), (4, 9), (5, 5), (5, 6), (5, 7), (5, 8), (5, 9), (32, -1), (33, -1), (34, -1), (35, -1), (37, -1)] h h48 := my_fr.tr gh35 (frh48.mo rfl)
        have Ln_h48 : Ln h48 := Ln_ag (my_ag.fr frh48 rfl) Ln_h35
        have Sp_h48 : Sp h48 wv := Sp_ag (my_ag.fr frh48 rfl) hwv Ln_h35 Sp_h35
        have St5_h48 : St5 h48 := St5_ag (my_ag.fr frh48 rfl) Ln_h35 St5_h35
        have Lo_h48 : Lo h h48 := Lo_ag (my_ag.fr frh48 rfl) Ln_h35 Lo_h35
        have AgZ_h48 : my_ag LzF h h48 := AgZ_ag (my_ag.fr frh48 rfl) AgZ_h35
        have LoZ_h48 : LoZ h h48 := LoZ_ag (my_ag.fr frh48 rfl) Ln_h35 LoZ_h35
        show wp l rho (d + 6) 60 53 [(2, 82), (0, v10), (0, v28), (9, 0)] [(0, 0)] h48 Q
        rw [show wc ((12 : Nat) : Int) = 99 from by decide] at xp51
        have tE61 : cs h35 = cs h := cs_eq (fun j => my_fr.at gh35 is_92 rfl) (my_fr.at gh35 is_82 rfl)
        rw [tE61] at xp51
        have ps62 : h35 82 7 = (sN (cs h) ((h 82 7))) := xc43
        rw [ps62] at xp51
        rw [ps62] at xp52
        refine w_ifne (t := 57) gz_60_53 rfl (fun u63 => by exfalso; omega) (fun u63 => ?_)
        have psR : h48 82 7 = h48 82 7 := (rfl : h48 82 7 = h48 82 7)
        have npsR : cs h48 = cs h := cs_eq (fun j => my_fr.at gh48 is_92 rfl) (my_fr.at gh48 is_82 rfl)
        have c64 := (rfl : h48 82 9 = h48 82 9)
        exact w_vret gz_60_56 gm_60 (k0 h48 (gh48) (by omega) (by omega) (by first | exact ⟨_, _, _, ⟨⟨by omega, by omega, by omega⟩, by omega, by omega⟩, pn9⟩ | exact LoZ_h48 | exact Lo_h48 | (rw [← w20]; exact std) | (unfold joinR; first | exact (by rcases xw with q | q | q; exact Or.inl ⟨q.1, by omega⟩; exact Or.inr (Or.inl ⟨q.1, q.2.1, by omega⟩); exact Or.inr (Or.inr ⟨q.1, q.2.1, Or.inl ⟨q.2.2.1, by omega⟩⟩)) | exact Or.inr (Or.inr ⟨by omega, by omega, Or.inr (Or.inr ⟨by omega, by omega, Or.inr ⟨by omega, Or.inr (Or.inr ⟨by omega, by omega, Or.inr ⟨by omega, by omega, by omega⟩⟩)⟩⟩)⟩) | exact Or.inr (Or.inr ⟨by omega, by omega, Or.inr (Or.inr ⟨by omega, by omega, Or.inr ⟨by omega, Or.inr (Or.inr ⟨by omega, by omega, Or.inl ⟨by omega, by omega⟩⟩)⟩⟩)⟩) | exact Or.inr (Or.inr ⟨by omega, by omega, Or.inr (Or.inr ⟨by omega, by omega, Or.inr ⟨by omega, or_assoc.mp (Or.inl (by omega))⟩⟩)⟩) | exact Or.inr (Or.inr ⟨by omega, by omega, Or.inr (Or.inr ⟨by omega, by omega, Or.inl ⟨by omega, by omega⟩⟩)⟩) | exact Or.inr (Or.inr ⟨by omega, by omega, Or.inr (Or.inl ⟨by omega, by omega, by omega⟩)⟩) | exact Or.inr (Or.inr ⟨by omega, by omega, Or.inl ⟨by omega, by omega⟩⟩) | exact or_assoc.mp (Or.inl (by omega))) | omega) (by first | exact ⟨_, _, _, ⟨⟨by omega, by omega, by omega⟩, by omega, by omega⟩, pn9⟩ | exact LoZ_h48 | exact Lo_h48 | (rw [← w20]; exact std) | (unfold joinR; first | exact (by rcases xw with q | q | q; exact Or.inl ⟨q.1, by omega⟩; exact Or.inr (Or.inl ⟨q.1, q.2.1, by omega⟩); exact Or.inr (Or.inr ⟨q.1, q.2.1, Or.inl ⟨q.2.2.1, by omega⟩⟩)) | exact Or.inr (Or.inr ⟨by omega, by omega, Or.inr (Or.inr ⟨by omega, by omega, Or.inr ⟨by omega, Or.inr (Or.inr ⟨by omega, by omega, Or.inr ⟨by omega, by omega, by omega⟩⟩)⟩⟩)⟩) | exact Or.inr (Or.inr ⟨by omega, by omega, Or.inr (Or.inr ⟨by omega, by omega, Or.inr ⟨by omega, Or.inr (Or.inr ⟨by omega, by omega, Or.inl ⟨by omega, by omega⟩⟩)⟩⟩)⟩) | exact Or.inr (Or.inr ⟨by omega, by omega, Or.inr (Or.inr ⟨by omega, by omega, Or.inr ⟨by omega, or_assoc.mp (Or.inl (by omega))⟩⟩)⟩) | exact Or.inr (Or.inr ⟨by omega, by omega, Or.inr (Or.inr ⟨by omega, by omega, Or.inl ⟨by omega, by omega⟩⟩)⟩) | exact Or.inr (Or.inr ⟨by omega, by omega, Or.inr (Or.inl ⟨by omega, by omega, by omega⟩)⟩) | exact Or.inr (Or.inr ⟨by omega, by omega, Or.inl ⟨by omega, by omega⟩⟩) | exact or_assoc.mp (Or.inl (by omega))) | omega) (by first | exact ⟨_, _, _, ⟨⟨by omega, by omega, by omega⟩, by omega, by omega⟩, pn9⟩ | exact LoZ_h48 | exact Lo_h48 | (rw [← w20]; exact std) | (unfold joinR; first | exact (by rcases xw with q | q | q; exact Or.inl ⟨q.1, by omega⟩; exact Or.inr (Or.inl ⟨q.1, q.2.1, by omega⟩); exact Or.inr (Or.inr ⟨q.1, q.2.1, Or.inl ⟨q.2.2.1, by omega⟩⟩)) | exact Or.inr (Or.inr ⟨by omega, by omega, Or.inr (Or.inr ⟨by omega, by omega, Or.inr ⟨by omega, Or.inr (Or.inr ⟨by omega, by omega, Or.inr ⟨by omega, by omega, by omega⟩⟩)⟩⟩)⟩) | exact Or.inr (Or.inr ⟨by omega, by omega, Or.inr (Or.inr ⟨by omega, by omega, Or.inr ⟨by omega, Or.inr (Or.inr ⟨by omega, by omega, Or.inl ⟨by omega, by omega⟩⟩)⟩⟩)⟩) | exact Or.inr (Or.inr ⟨by omega, by omega, Or.inr (Or.inr ⟨by omega, by omega, Or.inr ⟨by omega, or_assoc.mp (Or.inl (by omega))⟩⟩)⟩) | exact Or.inr (Or.inr ⟨by omega, by omega, Or.inr (Or.inr ⟨by omega, by omega, Or.inl ⟨by omega, by omega⟩⟩)⟩) | exact Or.inr (Or.inr ⟨by omega, by omega, Or.inr (Or.inl ⟨by omega, by omega, by omega⟩)⟩) | exact Or.inr (Or.inr ⟨by omega, by omega, Or.inl ⟨by omega, by omega⟩⟩) | exact or_assoc.mp (Or.inl (by omega))) | omega) Ln_h48 Sp_h48 Al_h48t53 Cu_h48t54)
      ·
        have gh55 : my_fr [(4, 4), (4, 5), (4, 6), (4, 8), (4, 9), (5, 5), (5, 6), (5, 7), (5, 8), (5, 9), (32, -1), (33, -1), (34, -1), (35, -1), (37, -1)] h h55 := my_fr.tr gh35 (frh55.mo rfl)
        have Ln_h55 : Ln h55 := Ln_ag (my_ag.fr frh55 rfl) Ln_h35
        have Sp_h55 : Sp h55 wv := Sp_ag (my_ag.fr frh55 rfl) hwv Ln_h35 Sp_h35
        have St5_h55 : St5 h55 := St5_ag (my_ag.fr frh55 rfl) Ln_h35 St5_h35
        have Lo_h55 : Lo h h55 := Lo_ag (my_ag.fr frh55 rfl) Ln_h35 Lo_h35
        have AgZ_h55 : my_ag LzF h h55 := AgZ_ag (my_ag.fr frh55 rfl) AgZ_h35
        have LoZ_h55 : LoZ h h55 := LoZ_ag (my_ag.fr frh55 rfl) Ln_h35 LoZ_h35
        show wp l rho (d + 6) 60 53 [(2, 82), (0, v10), (0, v28), (9, 0)] [(0, 1)] h55 Q
        have tE65 : cs h35 = cs h := cs_eq (fun j => my_fr.at gh35 is_92 rfl) (my_fr.at gh35 is_82 rfl)
        rw [tE65] at xp57
        have ps66 : h35 82 7 = (sN (cs h) ((h 82 7))) := xc43
        rw [ps66] at xp57
        rw [show wc ((12 : Nat) : Int) = 99 from by decide] at xp58
        rw [tE65] at xp58
        rw [ps66] at xp58
        have ck67 := Cu_s Cu_h55t60
        rw [show cs h55 = cs h from cs_eq (fun j => my_fr.at gh55 is_92 rfl) (my_fr.at gh55 is_82 rfl)] at ck67
        rw [show h55 82 7 = (sN (cs h) (((sN (cs h) ((h 82 7)))))) from xp57] at ck67
        have cv68 := Cu_v Cu_h55t60
        rw [show cs h55 = cs h from cs_eq (fun j => my_fr.at gh55 is_92 rfl) (my_fr.at gh55 is_82 rfl)] at cv68
        rw [show h55 82 7 = (sN (cs h) (((sN (cs h) ((h 82 7)))))) from xp57] at cv68
        refine w_ifne (t := 57) gz_60_53 rfl (fun u69 => ?_) (fun u69 => by exfalso; omega)
        refine w_aload_n gz_60_57 rfl ?_
        refine w_aload_n gz_60_58 rfl ?_
        refine v_getR (j := 2) gz_60_59 rfl is_82 rd_5 rfl (fun v70 ev70 tv70 => ?_)
        have zv70 : v30 = v70 := (ev70.trans ((my_fr.at frh55 is_82 rfl).trans ((my_fr.at frh35 is_82 rfl).trans ev30.symm))).symm
        subst zv70
        have ce71 : h55 82 2 = v30 := ((my_fr.at frh55 is_82 rfl).trans ((my_fr.at frh35 is_82 rfl).trans ev30.symm))
        have ce72 : h55 v30 4 = h v30 4 := ((my_fr.at frh55 tv30 rfl).trans ((my_fr.at frh35 tv30 rfl).trans ((my_fr.at frh9 tv30 rfl).trans (rfl : h v30 4 = h v30 4))))
        have sE65 : v30 = h 82 2 := by first | assumption | omega
        refine v_getI (j := 4) gz_60_62 rfl tv30 rd_4 rfl (fun v73 ev73 pv73 qv73 => ?_)
        have zv73 := ev73.trans ((my_fr.at frh55 tv30 rfl).trans ((my_fr.at frh35 tv30 rfl).trans ev33.symm))
        have c65 : v73 = h (h 82 2) 4 := by rw [← sE65]; omega
        refine w_inv (k := 1) (as := [(0, v73)]) (r := []) (x := 82) (ls0 := [(2, 82), (0, v73), (9, 0)]) gz_60_65 gm_51 rfl is_82 rd_5 rfl rfl rfl rfl rfl (c_Reader_takeNumber9_f0 (d := (d + 3)) (x1 := v73) (by omega) (by omega) (w56.trans (by omega)) Al_h55t59 Cu_h55t60 (fun h74 frh74 w75 w76 xp77 Al_h74t78 Cu_h74t79 => ?_) (fun h80 v81 frh80 w82 w83 w84 w85 w86 xp87 xp88 xp89 Al_h80t90 Cu_h80t91 => ?_))
        ·
          have gh74 : my_fr [(4, 4), (4, 5), (4, 6), (4, 8), (4, 9), (5, 5), (5, 6), (5, 7), (5, 8), (5, 9), (32, -1), (33, -1), (34, -1), (35, -1), (37, -1)] h h74 := my_fr.tr gh55 (frh74.mo rfl)
          have Ln_h74 : Ln h74 := Ln_ag (my_ag.fr frh74 rfl) Ln_h55
          have Sp_h74 : Sp h74 wv := Sp_ag (my_ag.fr frh74 rfl) hwv Ln_h55 Sp_h55
          have St5_h74 : St5 h74 := St5_ag (my_ag.fr frh74 rfl) Ln_h55 St5_h55
          have Lo_h74 : Lo h h74 := Lo_ag (my_ag.fr frh74 rfl) Ln_h55 Lo_h55
          have AgZ_h74 : my_ag LzF h h74 := AgZ_ag (my_ag.fr frh74 rfl) AgZ_h55
          have LoZ_h74 : LoZ h h74 := LoZ_ag (my_ag.fr frh74 rfl) Ln_h55 LoZ_h55
          show wp l rho (d + 6) 60 68 [(2, 82), (0, v10), (0, v28), (9, 0)] [(0, (-1))] h74 Q
          have tE92 : cs h55 = cs h := cs_eq (fun j => my_fr.at gh55 is_92 rfl) (my_fr.at gh55 is_82 rfl)
          rw [tE92] at xp77
          have ps93 : h55 82 7 = (sN (cs h) (((sN (cs h) ((h 82 7)))))) := xp57
          rw [ps93] at xp77
          refine w_istore_n (ls' := [(2, 82), (0, v10), (0, v28), (0, (-1))]) gz_60_68 gm_60 rfl rfl rfl ?_
          refine w_aload_n gz_60_69 rfl ?_
          refine v_getI (j := 9) gz_60_70 rfl is_82 rd_5 rfl (fun v94 ev94 pv94 qv94 => ?_)
          have zv94 := ev94.trans (rfl : h74 82 9 = h74 82 9)
          refine w_ifne (t := 93) gz_60_73 rfl (fun u95 => ?_) (fun u95 => by exfalso; omega)
          have psR : h74 82 7 = h74 82 7 := (rfl : h74 82 7 = h74 82 7)
          have npsR : cs h74 = cs h := cs_eq (fun j => my_fr.at gh74 is_92 rfl) (my_fr.at gh74 is_82 rfl)
          have c96 := ev94.symm
          exact w_vret gz_60_93 gm_60 (k0 h74 (gh74) (by omega) (by omega) (by first | exact ⟨_, _, _, ⟨⟨by omega, by omega, by omega⟩, by omega, by omega⟩, pn9⟩ | exact LoZ_h74 | exact Lo_h74 | (rw [← w20]; exact std) | (unfold joinR; first | exact (by rcases xw with q | q | q; exact Or.inl ⟨q.1, by omega⟩; exact Or.inr (Or.inl ⟨q.1, q.2.1, by omega⟩); exact Or.inr (Or.inr ⟨q.1, q.2.1, Or.inl ⟨q.2.2.1, by omega⟩⟩)) | exact Or.inr (Or.inr ⟨by omega, by omega, Or.inr (Or.inr ⟨by omega, by omega, Or.inr ⟨by omega, Or.inr (Or.inr ⟨by omega, by omega, Or.inr ⟨by omega, by omega, by omega⟩⟩)⟩⟩)⟩) | exact Or.inr (Or.inr ⟨by omega, by omega, Or.inr (Or.inr ⟨by omega, by omega, Or.inr ⟨by omega, Or.inr (Or.inr ⟨by omega, by omega, Or.inl ⟨by omega, by omega⟩⟩)⟩⟩)⟩) | exact Or.inr (Or.inr ⟨by omega, by omega, Or.inr (Or.inr ⟨by omega, by omega, Or.inr ⟨by omega, or_assoc.mp (Or.inl (by omega))⟩⟩)⟩) | exact Or.inr (Or.inr ⟨by omega, by omega, Or.inr (Or.inr ⟨by omega, by omega, Or.inl ⟨by omega, by omega⟩⟩)⟩) | exact Or.inr (Or.inr ⟨by omega, by omega, Or.inr (Or.inl ⟨by omega, by omega, by omega⟩)⟩) | exact Or.inr (Or.inr ⟨by omega, by omega, Or.inl ⟨by omega, by omega⟩⟩) | exact or_assoc.mp (Or.inl (by omega))) | omega) (by first | exact ⟨_, _, _, ⟨⟨by omega, by omega, by omega⟩, by omega, by omega⟩, pn9⟩ | exact LoZ_h74 | exact Lo_h74 | (rw [← w20]; exact std) | (unfold joinR; first | exact (by rcases xw with q | q | q; exact Or.inl ⟨q.1, by omega⟩; exact Or.inr (Or.inl ⟨q.1, q.2.1, by omega⟩); exact Or.inr (Or.inr ⟨q.1, q.2.1, Or.inl ⟨q.2.2.1, by omega⟩⟩)) | exact Or.inr (Or.inr ⟨by omega, by omega, Or.inr (Or.inr ⟨by omega, by omega, Or.inr ⟨by omega, Or.inr (Or.inr ⟨by omega, by omega, Or.inr ⟨by omega, by omega, by omega⟩⟩)⟩⟩)⟩) | exact Or.inr (Or.inr ⟨by omega, by omega, Or.inr (Or.inr ⟨by omega, by omega, Or.inr ⟨by omega, Or.inr (Or.inr ⟨by omega, by omega, Or.inl ⟨by omega, by omega⟩⟩)⟩⟩)⟩) | exact Or.inr (Or.inr ⟨by omega, by omega, Or.inr (Or.inr ⟨by omega, by omega, Or.inr ⟨by omega, or_assoc.mp (Or.inl (by omega))⟩⟩)⟩) | exact Or.inr (Or.inr ⟨by omega, by omega, Or.inr (Or.inr ⟨by omega, by omega, Or.inl ⟨by omega, by omega⟩⟩)⟩) | exact Or.inr (Or.inr ⟨by omega, by omega, Or.inr (Or.inl ⟨by omega, by omega, by omega⟩)⟩) | exact Or.inr (Or.inr ⟨by omega, by omega, Or.inl ⟨by omega, by omega⟩⟩) | exact or_assoc.mp (Or.inl (by omega))) | omega) (by first | exact ⟨_, _, _, ⟨⟨by omega, by omega, by omega⟩, by omega, by omega⟩, pn9⟩ | exact LoZ_h74 | exact Lo_h74 | (rw [← w20]; exact std) | (unfold joinR; first | exact (by rcases xw with q | q | q; exact Or.inl ⟨q.1, by omega⟩; exact Or.inr (Or.inl ⟨q.1, q.2.1, by omega⟩); exact Or.inr (Or.inr ⟨q.1, q.2.1, Or.inl ⟨q.2.2.1, by omega⟩⟩)) | exact Or.inr (Or.inr ⟨by omega, by omega, Or.inr (Or.inr ⟨by omega, by omega, Or.inr ⟨by omega, Or.inr (Or.inr ⟨by omega, by omega, Or.inr ⟨by omega, by omega, by omega⟩⟩)⟩⟩)⟩) | exact Or.inr (Or.inr ⟨by omega, by omega, Or.inr (Or.inr ⟨by omega, by omega, Or.inr ⟨by omega, Or.inr (Or.inr ⟨by omega, by omega, Or.inl ⟨by omega, by omega⟩⟩)⟩⟩)⟩) | exact Or.inr (Or.inr ⟨by omega, by omega, Or.inr (Or.inr ⟨by omega, by omega, Or.inr ⟨by omega, or_assoc.mp (Or.inl (by omega))⟩⟩)⟩) | exact Or.inr (Or.inr ⟨by omega, by omega, Or.inr (Or.inr ⟨by omega, by omega, Or.inl ⟨by omega, by omega⟩⟩)⟩) | exact Or.inr (Or.inr ⟨by omega, by omega, Or.inr (Or.inl ⟨by omega, by omega, by omega⟩)⟩) | exact Or.inr (Or.inr ⟨by omega, by omega, Or.inl ⟨by omega, by omega⟩⟩) | exact or_assoc.mp (Or.inl (by omega))) | omega) Ln_h74 Sp_h74 Al_h74t78 Cu_h74t79)
        ·
          have gh80 : my_fr [(4, 4), (4, 5), (4, 6), (4, 8), (4, 9), (5, 5), (5, 6), (5, 7), (5, 8), (5, 9), (32, -1), (33, -1), (34, -1), (35, -1), (37, -1)] h h80 := my_fr.tr gh55 (frh80.mo rfl)
          have Ln_h80 : Ln h80 := Ln_ag (my_ag.fr frh80 rfl) Ln_h55
          have Sp_h80 : Sp h80 wv := Sp_ag (my_ag.fr frh80 rfl) hwv Ln_h55 Sp_h55
          have St5_h80 : St5 h80 := St5_ag (my_ag.fr frh80 rfl) Ln_h55 St5_h55
          have Lo_h80 : Lo h h80 := Lo_ag (my_ag.fr frh80 rfl) Ln_h55 Lo_h55
          have AgZ_h80 : my_ag LzF h h80 := AgZ_ag (my_ag.fr frh80 rfl) AgZ_h55
          have LoZ_h80 : LoZ h h80 := LoZ_ag (my_ag.fr frh80 rfl) Ln_h55 LoZ_h55
          show wp l rho (d + 6) 60 68 [(2, 82), (0, v10), (0, v28), (9, 0)] [(0, v81)] h80 Q
          have tE97 : cs h55 = cs h := cs_eq (fun j => my_fr.at gh55 is_92 rfl) (my_fr.at gh55 is_82 rfl)
          rw [tE97] at xp87
          have ps98 : h55 82 7 = (sN (cs h) (((sN (cs h) ((h 82 7)))))) := xp57
          rw [ps98] at xp87
          rw [tE97] at xp88
          rw [ps98] at xp88
          rw [tE97] at xp89
          rw [ps98] at xp89
          have ck99 := Cu_s Cu_h80t91
          rw [show cs h80 = cs h from cs_eq (fun j => my_fr.at gh80 is_92 rfl) (my_fr.at gh80 is_82 rfl)] at ck99
          rw [show h80 82 7 = (sN (cs h) (((sN (cs h) (((sN (cs h) ((h 82 7))))))))) from xp87] at ck99
          have cv100 := Cu_v Cu_h80t91
          rw [show cs h80 = cs h from cs_eq (fun j => my_fr.at gh80 is_92 rfl) (my_fr.at gh80 is_82 rfl)] at cv100
          rw [show h80 82 7 = (sN (cs h) (((sN (cs h) (((sN (cs h) ((h 82 7))))))))) from xp87] at cv100
          refine w_istore_n (ls' := [(2, 82), (0, v10), (0, v28), (0, v81)]) gz_60_68 gm_60 rfl rfl rfl ?_
          refine w_aload_n gz_60_69 rfl ?_
          refine v_getI (j := 9) gz_60_70 rfl is_82 rd_5 rfl (fun v101 ev101 pv101 qv101 => ?_)
          have zv101 := ev101.trans w86
          refine w_ifne (t := 93) gz_60_73 rfl (fun u102 => by exfalso; omega) (fun u102 => ?_)
          refine w_aload_n gz_60_76 rfl ?_
          refine w_inv (k := 0) (as := []) (r := []) (x := 82) (ls0 := [(2, 82)]) gz_60_77 gm_47 rfl is_82 rd_5 rfl rfl rfl rfl rfl (c_Reader_endsHere9_f0 (d := (d + 3))  (ev101.symm.trans (by omega)) Al_h80t90 Cu_h80t91 (fun h103 frh103 w104 w105 xp106 xp107 Al_h103t108 Cu_h103t109 => ?_) (fun h110 frh110 w111 xp112 xp113 Al_h110t114 Cu_h110t115 => ?_))
          ·
            have gh103 : my_fr [(4, 4), (4, 5), (4, 6), (4, 8), (4, 9), (5, 5), (5, 6), (5, 7), (5, 8), (5, 9), (32, -1), (33, -1), (34, -1), (35, -1), (37, -1)] h h103 := my_fr.tr gh80 (frh103.mo rfl)
            have Ln_h103 : Ln h103 := Ln_ag (my_ag.fr frh103 rfl) Ln_h80
            have Sp_h103 : Sp h103 wv := Sp_ag (my_ag.fr frh103 rfl) hwv Ln_h80 Sp_h80
            have St5_h103 : St5 h103 := St5_ag (my_ag.fr frh103 rfl) Ln_h80 St5_h80
            have Lo_h103 : Lo h h103 := Lo_ag (my_ag.fr frh103 rfl) Ln_h80 Lo_h80
            have AgZ_h103 : my_ag LzF h h103 := AgZ_ag (my_ag.fr frh103 rfl) AgZ_h80
            have LoZ_h103 : LoZ h h103 := LoZ_ag (my_ag.fr frh103 rfl) Ln_h80 LoZ_h80
            show wp l rho (d + 6) 60 80 [(2, 82), (0, v10), (0, v28), (0, v81)] [(0, 0)] h103 Q
            have tE116 : cs h80 = cs h := cs_eq (fun j => my_fr.at gh80 is_92 rfl) (my_fr.at gh80 is_82 rfl)
            rw [tE116] at xp106
            have ps117 : h80 82 7 = (sN (cs h) (((sN (cs h) (((sN (cs h) ((h 82 7))))))))) := xp87
            rw [ps117] at xp106
            rw [ps117] at xp107
            refine w_ifeq (t := 93) gz_60_80 rfl (fun u118 => ?_) (fun u118 => by exfalso; omega)
            have psR : h103 82 7 = h103 82 7 := (rfl : h103 82 7 = h103 82 7)
            have npsR : cs h103 = cs h := cs_eq (fun j => my_fr.at gh103 is_92 rfl) (my_fr.at gh103 is_82 rfl)
            have c119 := (rfl : h103 82 9 = h103 82 9)
            exact w_vret gz_60_93 gm_60 (k0 h103 (gh103) (by omega) (by omega) (by first | exact ⟨_, _, _, ⟨⟨by omega, by omega, by omega⟩, by omega, by omega⟩, pn9⟩ | exact LoZ_h103 | exact Lo_h103 | (rw [← w20]; exact std) | (unfold joinR; first | exact (by rcases xw with q | q | q; exact Or.inl ⟨q.1, by omega⟩; exact Or.inr (Or.inl ⟨q.1, q.2.1, by omega⟩); exact Or.inr (Or.inr ⟨q.1, q.2.1, Or.inl ⟨q.2.2.1, by omega⟩⟩)) | exact Or.inr (Or.inr ⟨by omega, by omega, Or.inr (Or.inr ⟨by omega, by omega, Or.inr ⟨by omega, Or.inr (Or.inr ⟨by omega, by omega, Or.inr ⟨by omega, by omega, by omega⟩⟩)⟩⟩)⟩) | exact Or.inr (Or.inr ⟨by omega, by omega, Or.inr (Or.inr ⟨by omega, by omega, Or.inr ⟨by omega, Or.inr (Or.inr ⟨by omega, by omega, Or.inl ⟨by omega, by omega⟩⟩)⟩⟩)⟩) | exact Or.inr (Or.inr ⟨by omega, by omega, Or.inr (Or.inr ⟨by omega, by omega, Or.inr ⟨by omega, or_assoc.mp (Or.inl (by omega))⟩⟩)⟩) | exact Or.inr (Or.inr ⟨by omega, by omega, Or.inr (Or.inr ⟨by omega, by omega, Or.inl ⟨by omega, by omega⟩⟩)⟩) | exact Or.inr (Or.inr ⟨by omega, by omega, Or.inr (Or.inl ⟨by omega, by omega, by omega⟩)⟩) | exact Or.inr (Or.inr ⟨by omega, by omega, Or.inl ⟨by omega, by omega⟩⟩) | exact or_assoc.mp (Or.inl (by omega))) | omega) (by first | exact ⟨_, _, _, ⟨⟨by omega, by omega, by omega⟩, by omega, by omega⟩, pn9⟩ | exact LoZ_h103 | exact Lo_h103 | (rw [← w20]; exact std) | (unfold joinR; first | exact (by rcases xw with q | q | q; exact Or.inl ⟨q.1, by omega⟩; exact Or.inr (Or.inl ⟨q.1, q.2.1, by omega⟩); exact Or.inr (Or.inr ⟨q.1, q.2.1, Or.inl ⟨q.2.2.1, by omega⟩⟩)) | exact Or.inr (Or.inr ⟨by omega, by omega, Or.inr (Or.inr ⟨by omega, by omega, Or.inr ⟨by omega, Or.inr (Or.inr ⟨by omega, by omega, Or.inr ⟨by omega, by omega, by omega⟩⟩)⟩⟩)⟩) | exact Or.inr (Or.inr ⟨by omega, by omega, Or.inr (Or.inr ⟨by omega, by omega, Or.inr ⟨by omega, Or.inr (Or.inr ⟨by omega, by omega, Or.inl ⟨by omega, by omega⟩⟩)⟩⟩)⟩) | exact Or.inr (Or.inr ⟨by omega, by omega, Or.inr (Or.inr ⟨by omega, by omega, Or.inr ⟨by omega, or_assoc.mp (Or.inl (by omega))⟩⟩)⟩) | exact Or.inr (Or.inr ⟨by omega, by omega, Or.inr (Or.inr ⟨by omega, by omega, Or.inl ⟨by omega, by omega⟩⟩)⟩) | exact Or.inr (Or.inr ⟨by omega, by omega, Or.inr (Or.inl ⟨by omega, by omega, by omega⟩)⟩) | exact Or.inr (Or.inr ⟨by omega, by omega, Or.inl ⟨by omega, by omega⟩⟩) | exact or_assoc.mp (Or.inl (by omega))) | omega) (by first | exact ⟨_, _, _, ⟨⟨by omega, by omega, by omega⟩, by omega, by omega⟩, pn9⟩ | exact LoZ_h103 | exact Lo_h103 | (rw [← w20]; exact std) | (unfold joinR; first | exact (by rcases xw with q | q | q; exact Or.inl ⟨q.1, by omega⟩; exact Or.inr (Or.inl ⟨q.1, q.2.1, by omega⟩); exact Or.inr (Or.inr ⟨q.1, q.2.1, Or.inl ⟨q.2.2.1, by omega⟩⟩)) | exact Or.inr (Or.inr ⟨by omega, by omega, Or.inr (Or.inr ⟨by omega, by omega, Or.inr ⟨by omega, Or.inr (Or.inr ⟨by omega, by omega, Or.inr ⟨by omega, by omega, by omega⟩⟩)⟩⟩)⟩) | exact Or.inr (Or.inr ⟨by omega, by omega, Or.inr (Or.inr ⟨by omega, by omega, Or.inr ⟨by omega, Or.inr (Or.inr ⟨by omega, by omega, Or.inl ⟨by omega, by omega⟩⟩)⟩⟩)⟩) | exact Or.inr (Or.inr ⟨by omega, by omega, Or.inr (Or.inr ⟨by omega, by omega, Or.inr ⟨by omega, or_assoc.mp (Or.inl (by omega))⟩⟩)⟩) | exact Or.inr (Or.inr ⟨by omega, by omega, Or.inr (Or.inr ⟨by omega, by omega, Or.inl ⟨by omega, by omega⟩⟩)⟩) | exact Or.inr (Or.inr ⟨by omega, by omega, Or.inr (Or.inl ⟨by omega, by omega, by omega⟩)⟩) | exact Or.inr (Or.inr ⟨by omega, by omega, Or.inl ⟨by omega, by omega⟩⟩) | exact or_assoc.mp (Or.inl (by omega))) | omega) Ln_h103 Sp_h103 Al_h103t108 Cu_h103t109)
          ·
            have gh110 : my_fr [(4, 4), (4, 5), (4, 6), (4, 8), (4, 9), (5, 5), (5, 6), (5, 7), (5, 8), (5, 9), (32, -1), (33, -1), (34, -1), (35, -1), (37, -1)] h h110 := my_fr.tr gh80 (frh110.mo rfl)
            have Ln_h110 : Ln h110 := Ln_ag (my_ag.fr frh110 rfl) Ln_h80
            have Sp_h110 : Sp h110 wv := Sp_ag (my_ag.fr frh110 rfl) hwv Ln_h80 Sp_h80
            have St5_h110 : St5 h110 := St5_ag (my_ag.fr frh110 rfl) Ln_h80 St5_h80
            have Lo_h110 : Lo h h110 := Lo_ag (my_ag.fr frh110 rfl) Ln_h80 Lo_h80
            have AgZ_h110 : my_ag LzF h h110 := AgZ_ag (my_ag.fr frh110 rfl) AgZ_h80
            have LoZ_h110 : LoZ h h110 := LoZ_ag (my_ag.fr frh110 rfl) Ln_h80 LoZ_h80
            show wp l rho (d + 6) 60 80 [(2, 82), (0, v10), (0, v28), (0, v81)] [(0, 1)] h110 Q
            have tE120 : cs h80 = cs h := cs_eq (fun j => my_fr.at gh80 is_92 rfl) (my_fr.at gh80 is_82 rfl)
            rw [tE120] at xp112
            have ps121 : h80 82 7 = (sN (cs h) (((sN (cs h) (((sN (cs h) ((h 82 7))))))))) := xp87
            rw [ps121] at xp112
            rw [tE120] at xp113
            rw [ps121] at xp113
            have ck122 := Cu_s Cu_h110t115
            rw [show cs h110 = cs h from cs_eq (fun j => my_fr.at gh110 is_92 rfl) (my_fr.at gh110 is_82 rfl)] at ck122
            rw [show h110 82 7 = (sN (cs h) (((sN (cs h) (((sN (cs h) (((sN (cs h) ((h 82 7)))))))))))) from xp112] at ck122
            have cv123 := Cu_v Cu_h110t115
            rw [show cs h110 = cs h from cs_eq (fun j => my_fr.at gh110 is_92 rfl) (my_fr.at gh110 is_82 rfl)] at cv123
            rw [show h110 82 7 = (sN (cs h) (((sN (cs h) (((sN (cs h) (((sN (cs h) ((h 82 7)))))))))))) from xp112] at cv123
            refine w_ifeq (t := 93) gz_60_80 rfl (fun u124 => by exfalso; omega) (fun u124 => ?_)
            refine w_aload_n gz_60_83 rfl ?_
            refine v_getR (j := 2) gz_60_84 rfl is_82 rd_5 rfl (fun v125 ev125 tv125 => ?_)
            have zv125 : v30 = v125 := (ev125.trans ((my_fr.at frh110 is_82 rfl).trans ((my_fr.at frh80 is_82 rfl).trans ((my_fr.at frh55 is_82 rfl).trans ((my_fr.at frh35 is_82 rfl).trans ev30.symm))))).symm
            subst zv125
            refine w_iload_n gz_60_87 rfl ?_
            refine w_iload_n gz_60_88 rfl ?_
            refine w_iload_n gz_60_89 rfl ?_
            have ce126 : h110 82 2 = v30 := ((my_fr.at frh110 is_82 rfl).trans ((my_fr.at frh80 is_82 rfl).trans ((my_fr.at frh55 is_82 rfl).trans ((my_fr.at frh35 is_82 rfl).trans ev30.symm))))
            have s5a := St5_h110
            have s5e : v30 = h110 82 2 := by first | assumption | omega
            unfold St5 at s5a
            rw [← s5e] at s5a
            have ce127 : h110 v30 1 = h v30 1 := ((my_fr.at frh110 tv30 rfl).trans ((my_fr.at frh80 tv30 rfl).trans ((my_fr.at frh55 tv30 rfl).trans ((my_fr.at frh35 tv30 rfl).trans ((my_fr.at frh9 tv30 rfl).trans (rfl : h v30 1 = h v30 1))))))
            have ce128 : h110 v30 3 = h v30 3 := ((my_fr.at frh110 tv30 rfl).trans ((my_fr.at frh80 tv30 rfl).trans ((my_fr.at frh55 tv30 rfl).trans ((my_fr.at frh35 tv30 rfl).trans ((my_fr.at frh9 tv30 rfl).trans (rfl : h v30 3 = h v30 3))))))
            have ce129 : h110 v30 4 = h v30 4 := ((my_fr.at frh110 tv30 rfl).trans ((my_fr.at frh80 tv30 rfl).trans ((my_fr.at frh55 tv30 rfl).trans ((my_fr.at frh35 tv30 rfl).trans ((my_fr.at frh9 tv30 rfl).trans (rfl : h v30 4 = h v30 4))))))
            have ce130 : h110 v30 9 = h v30 9 := ((my_fr.at frh110 tv30 rfl).trans ((my_fr.at frh80 tv30 rfl).trans ((my_fr.at frh55 tv30 rfl).trans ((my_fr.at frh35 tv30 rfl).trans ((my_fr.at frh9 tv30 rfl).trans (rfl : h v30 9 = h v30 9))))))
            have sE : v30 = h 82 2 := by first | assumption | omega
            have eS1 : h110 v30 1 = h v30 1 := by omega
            have eS3 : h110 v30 3 = h v30 3 := by omega
            have eS4 : h110 v30 4 = h v30 4 := by omega
            have eS9 : h110 v30 9 = h v30 9 := by omega
            have az9 := AgZ_h110
            have hi131 : 1 ≤ v28 := by first | omega | (subst_vars; omega) | grind | omega
            have hi132 : v28 ≤ 4 := by first | omega | (subst_vars; omega) | grind | omega
            refine w_inv (k := 1) (as := [(0, v81), (0, v28), (0, v10)]) (r := []) (x := v30) (ls0 := [(2, v30), (0, v10), (0, v28), (0, v81), (9, 0)]) gz_60_90 gm_61 rfl tv30 rd_4 rfl rfl rfl rfl rfl (c_Lens_addJoin7 (d := (d + 4)) (x0 := v30) (x1 := v10) (x2 := v28) (x3 := v81) tv30 (by omega) (by omega) (by omega) (by omega) (by omega) (by omega) (by first | assumption | exact no_such_saying | exact Fp_told (by omega) (by omega) | omega | (subst_vars; omega) | omega) (by first | assumption | exact no_such_saying | exact Fp_told (by omega) (by omega) | omega | (subst_vars; omega) | omega) (fun h133 frh133 fxh133 w134 w135 xp136 xp137 xp138 => ?_))
            have gh133 : my_fr [(4, 4), (4, 5), (4, 6), (4, 8), (4, 9), (5, 5), (5, 6), (5, 7), (5, 8), (5, 9), (32, -1), (33, -1), (34, -1), (35, -1), (37, -1)] h h133 := my_fr.tr gh110 (frh133.mo rfl)
            have Ln_h133 : Ln h133 := Ln_fx fxh133 (by first | assumption | omega) Ln_h110
            have Lo_h133 : Lo h h133 := Lo_fx fxh133 (by first | assumption | omega) Ln_h110 Lo_h110
            have LoZ_h133 : LoZ h h133 := LoZ_fx fxh133 (by first | assumption | omega) Ln_h110 LoZ_h110
            have Al_h133 : Al h133 := Al_ag (my_ag.fr frh133 rfl) Al_h110t114
            have Cu_h133 : Cu h133 := Cu_ag (my_ag.fr frh133 rfl) Cu_h110t115
            show wp l rho (d + 6) 60 93 [(2, 82), (0, v10), (0, v28), (0, v81)] [] h133 Q
            have Sp_h133t139 : Sp h133 wv := Sp_add fxh133 (by first | assumption | omega) hwv Ln_h110 Sp_h110 xp136 (by have := St5_h110.1; omega) (by omega) (by omega)
            have ce140 : h133 82 2 = v30 := ((my_fr.at frh133 is_82 rfl).trans ((my_fr.at frh110 is_82 rfl).trans ((my_fr.at frh80 is_82 rfl).trans ((my_fr.at frh55 is_82 rfl).trans ((my_fr.at frh35 is_82 rfl).trans ev30.symm)))))
            have std := Std_add xp136 sE (by omega) eS3 eS4 eS9 eS1
            have pn9 : PnI h h133 4 v81 v10 v28 := PnI_mk az9 sE n_Ln.2.2.2.1 xp137 xp138
            have psR : h133 82 7 = (sN (cs h) (((sN (cs h) (((sN (cs h) (((sN (cs h) ((h 82 7)))))))))))) := ((my_fr.at frh133 is_82 rfl).trans xp112)
            have npsR : cs h133 = cs h := cs_eq (fun j => my_fr.at gh133 is_92 rfl) (my_fr.at gh133 is_82 rfl)
            have c141 := ((my_fr.at frh133 is_82 rfl).trans w111)
            exact w_vret gz_60_93 gm_60 (k1 h133 (gh133) (by omega) (by first | exact ⟨_, _, _, ⟨⟨by omega, by omega, by omega⟩, by omega, by omega⟩, pn9⟩ | exact LoZ_h133 | exact Lo_h133 | (rw [← w20]; exact std) | (unfold joinR; first | exact (by rcases xw with q | q | q; exact Or.inl ⟨q.1, by omega⟩; exact Or.inr (Or.inl ⟨q.1, q.2.1, by omega⟩); exact Or.inr (Or.inr ⟨q.1, q.2.1, Or.inl ⟨q.2.2.1, by omega⟩⟩)) | exact Or.inr (Or.inr ⟨by omega, by omega, Or.inr (Or.inr ⟨by omega, by omega, Or.inr ⟨by omega, Or.inr (Or.inr ⟨by omega, by omega, Or.inr ⟨by omega, by omega, by omega⟩⟩)⟩⟩)⟩) | exact Or.inr (Or.inr ⟨by omega, by omega, Or.inr (Or.inr ⟨by omega, by omega, Or.inr ⟨by omega, Or.inr (Or.inr ⟨by omega, by omega, Or.inl ⟨by omega, by omega⟩⟩)⟩⟩)⟩) | exact Or.inr (Or.inr ⟨by omega, by omega, Or.inr (Or.inr ⟨by omega, by omega, Or.inr ⟨by omega, or_assoc.mp (Or.inl (by omega))⟩⟩)⟩) | exact Or.inr (Or.inr ⟨by omega, by omega, Or.inr (Or.inr ⟨by omega, by omega, Or.inl ⟨by omega, by omega⟩⟩)⟩) | exact Or.inr (Or.inr ⟨by omega, by omega, Or.inr (Or.inl ⟨by omega, by omega, by omega⟩)⟩) | exact Or.inr (Or.inr ⟨by omega, by omega, Or.inl ⟨by omega, by omega⟩⟩) | exact or_assoc.mp (Or.inl (by omega))) | omega) (by first | exact ⟨_, _, _, ⟨⟨by omega, by omega, by omega⟩, by omega, by omega⟩, pn9⟩ | exact LoZ_h133 | exact Lo_h133 | (rw [← w20]; exact std) | (unfold joinR; first | exact (by rcases xw with q | q | q; exact Or.inl ⟨q.1, by omega⟩; exact Or.inr (Or.inl ⟨q.1, q.2.1, by omega⟩); exact Or.inr (Or.inr ⟨q.1, q.2.1, Or.inl ⟨q.2.2.1, by omega⟩⟩)) | exact Or.inr (Or.inr ⟨by omega, by omega, Or.inr (Or.inr ⟨by omega, by omega, Or.inr ⟨by omega, Or.inr (Or.inr ⟨by omega, by omega, Or.inr ⟨by omega, by omega, by omega⟩⟩)⟩⟩)⟩) | exact Or.inr (Or.inr ⟨by omega, by omega, Or.inr (Or.inr ⟨by omega, by omega, Or.inr ⟨by omega, Or.inr (Or.inr ⟨by omega, by omega, Or.inl ⟨by omega, by omega⟩⟩)⟩⟩)⟩) | exact Or.inr (Or.inr ⟨by omega, by omega, Or.inr (Or.inr ⟨by omega, by omega, Or.inr ⟨by omega, or_assoc.mp (Or.inl (by omega))⟩⟩)⟩) | exact Or.inr (Or.inr ⟨by omega, by omega, Or.inr (Or.inr ⟨by omega, by omega, Or.inl ⟨by omega, by omega⟩⟩)⟩) | exact Or.inr (Or.inr ⟨by omega, by omega, Or.inr (Or.inl ⟨by omega, by omega, by omega⟩)⟩) | exact Or.inr (Or.inr ⟨by omega, by omega, Or.inl ⟨by omega, by omega⟩⟩) | exact or_assoc.mp (Or.inl (by omega))) | omega) (by first | exact ⟨_, _, _, ⟨⟨by omega, by omega, by omega⟩, by omega, by omega⟩, pn9⟩ | exact LoZ_h133 | exact Lo_h133 | (rw [← w20]; exact std) | (unfold joinR; first | exact (by rcases xw with q | q | q; exact Or.inl ⟨q.1, by omega⟩; exact Or.inr (Or.inl ⟨q.1, q.2.1, by omega⟩); exact Or.inr (Or.inr ⟨q.1, q.2.1, Or.inl ⟨q.2.2.1, by omega⟩⟩)) | exact Or.inr (Or.inr ⟨by omega, by omega, Or.inr (Or.inr ⟨by omega, by omega, Or.inr ⟨by omega, Or.inr (Or.inr ⟨by omega, by omega, Or.inr ⟨by omega, by omega, by omega⟩⟩)⟩⟩)⟩) | exact Or.inr (Or.inr ⟨by omega, by omega, Or.inr (Or.inr ⟨by omega, by omega, Or.inr ⟨by omega, Or.inr (Or.inr ⟨by omega, by omega, Or.inl ⟨by omega, by omega⟩⟩)⟩⟩)⟩) | exact Or.inr (Or.inr ⟨by omega, by omega, Or.inr (Or.inr ⟨by omega, by omega, Or.inr ⟨by omega, or_assoc.mp (Or.inl (by omega))⟩⟩)⟩) | exact Or.inr (Or.inr ⟨by omega, by omega, Or.inr (Or.inr ⟨by omega, by omega, Or.inl ⟨by omega, by omega⟩⟩)⟩) | exact Or.inr (Or.inr ⟨by omega, by omega, Or.inr (Or.inl ⟨by omega, by omega, by omega⟩)⟩) | exact Or.inr (Or.inr ⟨by omega, by omega, Or.inl ⟨by omega, by omega⟩⟩) | exact or_assoc.mp (Or.inl (by omega))) | omega) (by first | exact ⟨_, _, _, ⟨⟨by omega, by omega, by omega⟩, by omega, by omega⟩, pn9⟩ | exact LoZ_h133 | exact Lo_h133 | (rw [← w20]; exact std) | (unfold joinR; first | exact (by rcases xw with q | q | q; exact Or.inl ⟨q.1, by omega⟩; exact Or.inr (Or.inl ⟨q.1, q.2.1, by omega⟩); exact Or.inr (Or.inr ⟨q.1, q.2.1, Or.inl ⟨q.2.2.1, by omega⟩⟩)) | exact Or.inr (Or.inr ⟨by omega, by omega, Or.inr (Or.inr ⟨by omega, by omega, Or.inr ⟨by omega, Or.inr (Or.inr ⟨by omega, by omega, Or.inr ⟨by omega, by omega, by omega⟩⟩)⟩⟩)⟩) | exact Or.inr (Or.inr ⟨by omega, by omega, Or.inr (Or.inr ⟨by omega, by omega, Or.inr ⟨by omega, Or.inr (Or.inr ⟨by omega, by omega, Or.inl ⟨by omega, by omega⟩⟩)⟩⟩)⟩) | exact Or.inr (Or.inr ⟨by omega, by omega, Or.inr (Or.inr ⟨by omega, by omega, Or.inr ⟨by omega, or_assoc.mp (Or.inl (by omega))⟩⟩)⟩) | exact Or.inr (Or.inr ⟨by omega, by omega, Or.inr (Or.inr ⟨by omega, by omega, Or.inl ⟨by omega, by omega⟩⟩)⟩) | exact Or.inr (Or.inr ⟨by omega, by omega, Or.inr (Or.inl ⟨by omega, by omega, by omega⟩)⟩) | exact Or.inr (Or.inr ⟨by omega, by omega, Or.inl ⟨by omega, by omega⟩⟩) | exact or_assoc.mp (Or.inl (by omega))) | omega) (by first | exact ⟨_, _, _, ⟨⟨by omega, by omega, by omega⟩, by omega, by omega⟩, pn9⟩ | exact LoZ_h133 | exact Lo_h133 | (rw [← w20]; exact std) | (unfold joinR; first | exact (by rcases xw with q | q | q; exact Or.inl ⟨q.1, by omega⟩; exact Or.inr (Or.inl ⟨q.1, q.2.1, by omega⟩); exact Or.inr (Or.inr ⟨q.1, q.2.1, Or.inl ⟨q.2.2.1, by omega⟩⟩)) | exact Or.inr (Or.inr ⟨by omega, by omega, Or.inr (Or.inr ⟨by omega, by omega, Or.inr ⟨by omega, Or.inr (Or.inr ⟨by omega, by omega, Or.inr ⟨by omega, by omega, by omega⟩⟩)⟩⟩)⟩) | exact Or.inr (Or.inr ⟨by omega, by omega, Or.inr (Or.inr ⟨by omega, by omega, Or.inr ⟨by omega, Or.inr (Or.inr ⟨by omega, by omega, Or.inl ⟨by omega, by omega⟩⟩)⟩⟩)⟩) | exact Or.inr (Or.inr ⟨by omega, by omega, Or.inr (Or.inr ⟨by omega, by omega, Or.inr ⟨by omega, or_assoc.mp (Or.inl (by omega))⟩⟩)⟩) | exact Or.inr (Or.inr ⟨by omega, by omega, Or.inr (Or.inr ⟨by omega, by omega, Or.inl ⟨by omega, by omega⟩⟩)⟩) | exact Or.inr (Or.inr ⟨by omega, by omega, Or.inr (Or.inl ⟨by omega, by omega, by omega⟩)⟩) | exact Or.inr (Or.inr ⟨by omega, by omega, Or.inl ⟨by omega, by omega⟩⟩) | exact or_assoc.mp (Or.inl (by omega))) | omega) Ln_h133 Sp_h133t139 Al_h133 Cu_h133)
    ·
      have ce142 : h9 82 7 = h 82 7 := ((my_fr.at frh9 is_82 rfl).trans (rfl : h 82 7 = h 82 7))
      refine w_aload_n gz_60_37 rfl ?_
      refine w_iconst gz_60_38 (by decide) ?_
      refine w_inv (k := 0) (as := [(0, 5)]) (r := []) (x := 82) (ls0 := [(2, 82), (0, 5)]) gz_60_39 gm_42 rfl is_82 rd_5 rfl rfl rfl rfl rfl ?_
      refine w_aload_n gz_42_0 rfl ?_
      refine v_getI (j := 9) gz_42_1 rfl is_82 rd_5 rfl (fun v143 ev143 pv143 qv143 => ?_)
      have zv143 := ev143.trans w16
      refine w_ifne (t := 20) gz_42_4 rfl (fun u144 => by exfalso; omega) (fun u144 => ?_)
      refine w_aload_n gz_42_7 rfl ?_
      refine w_iload_n gz_42_8 rfl ?_
      refine w_bipush gz_42_9 (by decide) ?_
      refine w_aload_n gz_42_11 rfl ?_
      refine v_getI (j := 7) gz_42_12 rfl is_82 rd_5 rfl (fun v145 ev145 pv145 qv145 => ?_)
      refine w_imul gz_42_15 ⟨by omega, by omega⟩ ?_
      refine w_iadd gz_42_16 ⟨by omega, by omega⟩ ?_
      refine v_putI (j := 9) gz_42_17 rfl is_82 rd_5 rfl (by omega) (by omega) rfl (fun h146 fh146 => ?_)
      have gh146 : my_fr [(4, 4), (4, 5), (4, 6), (4, 8), (4, 9), (5, 5), (5, 6), (5, 7), (5, 8), (5, 9), (32, -1), (33, -1), (34, -1), (35, -1), (37, -1)] h h146 := my_fr.up gh9 is_82 fh146 rfl
      have Ln_h146 : Ln h146 := Ln_ag (my_ag.up fh146 is_82 rfl) Ln_h9
      have Sp_h146 : Sp h146 wv := Sp_ag (my_ag.up fh146 is_82 rfl) hwv Ln_h9 Sp_h9
      have St5_h146 : St5 h146 := St5_ag (my_ag.up fh146 is_82 rfl) Ln_h9 St5_h9
      have Al_h146 : Al h146 := Al_ag (my_ag.up fh146 is_82 rfl) Al_h9t21
      have Cu_h146 : Cu h146 := Cu_ag (my_ag.up fh146 is_82 rfl) Cu_h9t22
      have Lo_h146 : Lo h h146 := Lo_ag (my_ag.up fh146 is_82 rfl) Ln_h9 Lo_h9
      have AgZ_h146 : my_ag LzF h h146 := AgZ_ag (my_ag.up fh146 is_82 rfl) AgZ_h9
      have LoZ_h146 : LoZ h h146 := LoZ_ag (my_ag.up fh146 is_82 rfl) Ln_h9 LoZ_h9
      refine w_vret gz_42_20 gm_42 ?_
      show wp l rho (d + 6) 60 42 [(2, 82), (0, v10), (0, v28), (9, 0)] [] h146 Q
      have psR : h146 82 7 = h 82 7 := ((my_up_fld fh146 (by decide)).trans ((my_fr.at frh9 is_82 rfl).trans (rfl : h 82 7 = h 82 7)))
      have npsR : cs h146 = cs h := cs_eq (fun j => my_fr.at gh146 is_92 rfl) (my_fr.at gh146 is_82 rfl)
      have c147 := (my_up_self fh146)
      exact w_vret gz_60_42 gm_60 (k0 h146 (gh146) (by omega) (by omega) (by first | exact ⟨_, _, _, ⟨⟨by omega, by omega, by omega⟩, by omega, by omega⟩, pn9⟩ | exact LoZ_h146 | exact Lo_h146 | (rw [← w20]; exact std) | (unfold joinR; first | exact (by rcases xw with q | q | q; exact Or.inl ⟨q.1, by omega⟩; exact Or.inr (Or.inl ⟨q.1, q.2.1, by omega⟩); exact Or.inr (Or.inr ⟨q.1, q.2.1, Or.inl ⟨q.2.2.1, by omega⟩⟩)) | exact Or.inr (Or.inr ⟨by omega, by omega, Or.inr (Or.inr ⟨by omega, by omega, Or.inr ⟨by omega, Or.inr (Or.inr ⟨by omega, by omega, Or.inr ⟨by omega, by omega, by omega⟩⟩)⟩⟩)⟩) | exact Or.inr (Or.inr ⟨by omega, by omega, Or.inr (Or.inr ⟨by omega, by omega, Or.inr ⟨by omega, Or.inr (Or.inr ⟨by omega, by omega, Or.inl ⟨by omega, by omega⟩⟩)⟩⟩)⟩) | exact Or.inr (Or.inr ⟨by omega, by omega, Or.inr (Or.inr ⟨by omega, by omega, Or.inr ⟨by omega, or_assoc.mp (Or.inl (by omega))⟩⟩)⟩) | exact Or.inr (Or.inr ⟨by omega, by omega, Or.inr (Or.inr ⟨by omega, by omega, Or.inl ⟨by omega, by omega⟩⟩)⟩) | exact Or.inr (Or.inr ⟨by omega, by omega, Or.inr (Or.inl ⟨by omega, by omega, by omega⟩)⟩) | exact Or.inr (Or.inr ⟨by omega, by omega, Or.inl ⟨by omega, by omega⟩⟩) | exact or_assoc.mp (Or.inl (by omega))) | omega) (by first | exact ⟨_, _, _, ⟨⟨by omega, by omega, by omega⟩, by omega, by omega⟩, pn9⟩ | exact LoZ_h146 | exact Lo_h146 | (rw [← w20]; exact std) | (unfold joinR; first | exact (by rcases xw with q | q | q; exact Or.inl ⟨q.1, by omega⟩; exact Or.inr (Or.inl ⟨q.1, q.2.1, by omega⟩); exact Or.inr (Or.inr ⟨q.1, q.2.1, Or.inl ⟨q.2.2.1, by omega⟩⟩)) | exact Or.inr (Or.inr ⟨by omega, by omega, Or.inr (Or.inr ⟨by omega, by omega, Or.inr ⟨by omega, Or.inr (Or.inr ⟨by omega, by omega, Or.inr ⟨by omega, by omega, by omega⟩⟩)⟩⟩)⟩) | exact Or.inr (Or.inr ⟨by omega, by omega, Or.inr (Or.inr ⟨by omega, by omega, Or.inr ⟨by omega, Or.inr (Or.inr ⟨by omega, by omega, Or.inl ⟨by omega, by omega⟩⟩)⟩⟩)⟩) | exact Or.inr (Or.inr ⟨by omega, by omega, Or.inr (Or.inr ⟨by omega, by omega, Or.inr ⟨by omega, or_assoc.mp (Or.inl (by omega))⟩⟩)⟩) | exact Or.inr (Or.inr ⟨by omega, by omega, Or.inr (Or.inr ⟨by omega, by omega, Or.inl ⟨by omega, by omega⟩⟩)⟩) | exact Or.inr (Or.inr ⟨by omega, by omega, Or.inr (Or.inl ⟨by omega, by omega, by omega⟩)⟩) | exact Or.inr (Or.inr ⟨by omega, by omega, Or.inl ⟨by omega, by omega⟩⟩) | exact or_assoc.mp (Or.inl (by omega))) | omega) (by first | exact ⟨_, _, _, ⟨⟨by omega, by omega, by omega⟩, by omega, by omega⟩, pn9⟩ | exact LoZ_h146 | exact Lo_h146 | (rw [← w20]; exact std) | (unfold joinR; first | exact (by rcases xw with q | q | q; exact Or.inl ⟨q.1, by omega⟩; exact Or.inr (Or.inl ⟨q.1, q.2.1, by omega⟩); exact Or.inr (Or.inr ⟨q.1, q.2.1, Or.inl ⟨q.2.2.1, by omega⟩⟩)) | exact Or.inr (Or.inr ⟨by omega, by omega, Or.inr (Or.inr ⟨by omega, by omega, Or.inr ⟨by omega, Or.inr (Or.inr ⟨by omega, by omega, Or.inr ⟨by omega, by omega, by omega⟩⟩)⟩⟩)⟩) | exact Or.inr (Or.inr ⟨by omega, by omega, Or.inr (Or.inr ⟨by omega, by omega, Or.inr ⟨by omega, Or.inr (Or.inr ⟨by omega, by omega, Or.inl ⟨by omega, by omega⟩⟩)⟩⟩)⟩) | exact Or.inr (Or.inr ⟨by omega, by omega, Or.inr (Or.inr ⟨by omega, by omega, Or.inr ⟨by omega, or_assoc.mp (Or.inl (by omega))⟩⟩)⟩) | exact Or.inr (Or.inr ⟨by omega, by omega, Or.inr (Or.inr ⟨by omega, by omega, Or.inl ⟨by omega, by omega⟩⟩)⟩) | exact Or.inr (Or.inr ⟨by omega, by omega, Or.inr (Or.inl ⟨by omega, by omega, by omega⟩)⟩) | exact Or.inr (Or.inr ⟨by omega, by omega, Or.inl ⟨by omega, by omega⟩⟩) | exact or_assoc.mp (Or.inl (by omega))) | omega) Ln_h146 Sp_h146 Al_h146 Cu_h146)
end MYNReader_readFew7_f0
