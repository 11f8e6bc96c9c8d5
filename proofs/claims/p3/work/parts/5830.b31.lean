/-! contracts, printed by wip/gen/gy.py -/
section MYNReader_readFew9_f0
theorem c_Reader_readFew9_f0 {l : Launch} {rho : Nat → Int32} {d : Nat} {h : my_H} {Q : my_H → my_V → Prop} {wv : Int} (cf : h 82 9 = 0) (hwv : wv ≤ 5) (hwv0 : 0 ≤ wv) (n_Ln : Ln h) (n_Sp : Sp h wv) (n_St5 : St5 h) (n_Al : Al h) (n_Cu : Cu h) (k0 : ∀ (h' : my_H), my_fr [(4, 4), (4, 5), (4, 9), (5, 5), (5, 6), (5, 7), (5, 8), (5, 9), (32, -1), (33, -1), (34, -1), (35, -1), (36, -1), (37, -1), (39, -1)] h h' → 1 ≤ h' 82 9 → h' 82 9 ≤ 16004 → fewE (cs h) (h (h 82 2) 4) (h 82 7) (h' 82 9) (h' 82 7) 0 → Lo h h' → Ln h' → Sp h' wv → Al h' → Cu h' → Q h' (9, 0)) (k1 : ∀ (h' : my_H), my_fr [(4, 4), (4, 5), (4, 9), (5, 5), (5, 6), (5, 7), (5, 8), (5, 9), (32, -1), (33, -1), (34, -1), (35, -1), (36, -1), (37, -1), (39, -1)] h h' → h' 82 9 = 0 → fewE (cs h) (h (h 82 2) 4) (h 82 7) (h' 82 9) (h' 82 7) (h' (h 82 2) 4) → Std h h' (h' (h 82 2) 4) (h (h 82 2) 9 + 1) → Lo h h' → Ln h' → Sp h' wv → Al h' → Cu h' → Q h' (9, 0)) : wp l rho (d + 2) 56 0 [(2, 82), (9, 0), (9, 0)] [] h Q := by
  have ck1 := Cu_s n_Cu
  have cv2 := Cu_v n_Cu
  have J2_0 : ∀ (n : Nat) (p2_0 : Int) (h2_0 : my_H), my_fr [(4, 4), (4, 5), (4, 9), (5, 5), (5, 6), (5, 7), (5, 8), (5, 9), (32, -1), (33, -1), (34, -1), (35, -1), (36, -1), (37, -1), (39, -1)] h h2_0 → 0 ≤ p2_0 → p2_0 ≤ 8 → h2_0 82 9 = 0 → Ln h2_0 → Sp h2_0 wv → St5 h2_0 → Al h2_0 → Cu h2_0 → Pk h2_0 p2_0 → Lo h h2_0 → fwI h h2_0 p2_0 → h2_0 82 2 = h 82 2 → h2_0 (h 82 2) 1 = h (h 82 2) 1 → h2_0 (h 82 2) 3 = h (h 82 2) 3 → h2_0 (h 82 2) 4 = h (h 82 2) 4 → h2_0 (h 82 2) 9 = h (h 82 2) 9 → 9 - p2_0 ≤ (n : Int) → wp l rho (d + 2) 56 2 [(2, 82), (0, p2_0), (9, 0)] [] h2_0 Q := by
    intro n
    induction n with
    | zero => intro p2_0 h2_0 gh_2_0 q0_2_0 q1_2_0 c82_9_2_0 n_Ln_2_0 n_Sp_2_0 n_St5_2_0 n_Al_2_0 n_Cu_2_0 n_Pk_2_0 n_Lo_2_0 fw_2_0 e2_2_0 f1_2_0 f3_2_0 f4_2_0 f9_2_0 hm_2_0; exfalso; omega
    | succ n ih_2_0 =>
      intro p2_0 h2_0 gh_2_0 q0_2_0 q1_2_0 c82_9_2_0 n_Ln_2_0 n_Sp_2_0 n_St5_2_0 n_Al_2_0 n_Cu_2_0 n_Pk_2_0 n_Lo_2_0 fw_2_0 e2_2_0 f1_2_0 f3_2_0 f4_2_0 f9_2_0 hm_2_0
      have ck3 := Cu_s n_Cu_2_0
      rw [show cs h2_0 = cs h from cs_eq (fun j => my_fr.at gh_2_0 is_92 rfl) (my_fr.at gh_2_0 is_82 rfl)] at ck3
      have cv4 := Cu_v n_Cu_2_0
      rw [show cs h2_0 = cs h from cs_eq (fun j => my_fr.at gh_2_0 is_92 rfl) (my_fr.at gh_2_0 is_82 rfl)] at cv4
      refine w_aload_n gz_56_2 rfl ?_
      refine w_aload_n gz_56_3 rfl ?_
      refine v_getR (j := 2) gz_56_4 rfl is_82 rd_5 rfl (fun v5 ev5 tv5 => ?_)
      have ce6 : h2_0 82 2 = v5 := ev5.symm
      have sE7 : v5 = h 82 2 := by first | assumption | omega
      refine v_getI (j := 4) gz_56_7 rfl tv5 rd_4 rfl (fun v7 ev7 pv7 qv7 => ?_)
      have c10 : v7 = h (h 82 2) 4 := by rw [← f4_2_0, ← sE7]; omega
      refine w_inv (k := 0) (as := [(0, v7)]) (r := []) (x := 82) (ls0 := [(2, 82), (0, v7)]) gz_56_10 gm_44 rfl is_82 rd_5 rfl rfl rfl rfl rfl ?_
      refine w_aload_n gz_44_0 rfl ?_
      refine v_getI (j := 6) gz_44_1 rfl is_82 rd_5 rfl (fun v8 ev8 pv8 qv8 => ?_)
      refine w_iconst gz_44_4 (by decide) ?_
      refine w_iceq (t := 15) gz_44_5 rfl (fun u9 => ?_) (fun u9 => ?_)
      ·
        refine w_aload_n gz_44_15 rfl ?_
        refine v_getI (j := 8) gz_44_16 rfl is_82 rd_5 rfl (fun v10 ev10 pv10 qv10 => ?_)
        refine w_iload_n gz_44_19 rfl ?_
        refine w_iclt (t := 30) gz_44_20 rfl (fun u11 => ?_) (fun u11 => ?_)
        ·
          refine w_aload_n gz_44_30 rfl ?_
          refine v_getI (j := 9) gz_44_31 rfl is_82 rd_5 rfl (fun v12 ev12 pv12 qv12 => ?_)
          have zv12 := ev12.trans c82_9_2_0
          refine w_ifne (t := 44) gz_44_34 rfl (fun u13 => by exfalso; omega) (fun u13 => ?_)
          refine w_aload_n gz_44_37 rfl ?_
          refine v_getI (j := 8) gz_44_38 rfl is_82 rd_5 rfl (fun v14 ev14 pv14 qv14 => ?_)
          have zv14 := ev14.trans ev10.symm
          refine w_goto (t := 45) gz_44_41 rfl ?_
          refine w_iret gz_44_45 gm_44 ?_
          show wp l rho (d + 2) 56 13 [(2, 82), (0, p2_0), (9, 0)] [(0, v14)] h2_0 Q
          refine w_istore_n (ls' := [(2, 82), (0, p2_0), (0, v14)]) gz_56_13 gm_56 rfl rfl rfl ?_
          refine w_iload_n gz_56_14 rfl ?_
          refine w_iconst gz_56_15 (by decide) ?_
          refine w_icne (t := 20) gz_56_16 rfl (fun u15 => ?_) (fun u15 => by exfalso; omega)
          refine w_aload_n gz_56_20 rfl ?_
          refine v_getR (j := 2) gz_56_21 rfl is_82 rd_5 rfl (fun v16 ev16 tv16 => ?_)
          have zv16 : v5 = v16 := (ev16.trans ev5.symm).symm
          subst zv16
          refine w_iload_n gz_56_24 rfl ?_
          refine w_iload_n gz_56_25 rfl ?_
          have ce17 : h2_0 82 2 = v5 := ev5.symm
          have s5a := n_St5_2_0
          have s5e : v5 = h2_0 82 2 := by first | assumption | omega
          unfold St5 at s5a
          rw [← s5e] at s5a
          refine w_inv (k := 1) (as := [(0, p2_0), (0, v14)]) (r := []) (x := v5) (ls0 := [(2, v5), (0, v14), (0, p2_0), (9, 0)]) gz_56_26 gm_57 rfl tv5 rd_4 rfl rfl rfl rfl rfl (c_Lens_isPicked9 (d := (d + 1)) (x0 := v5) (x1 := v14) (x2 := p2_0) tv5 (by omega) (by omega) (by omega) (by omega) (by first | assumption | exact no_such_saying | exact Fp_told (by omega) (by omega) | omega | (subst_vars; omega) | omega) (fun xp18 => ?_) (fun w19 xp20 => ?_))
          ·
            show wp l rho (d + 2) 56 29 [(2, 82), (0, p2_0), (0, v14)] [(0, 0)] h2_0 Q
            have np := xp18
            have npk : ¬ PkS h2_0 p2_0 v14 := fun ⟨i, a, b, d⟩ => xp18 i a b (by rw [s5e]; exact d)
            refine w_ifeq (t := 38) gz_56_29 rfl (fun u21 => ?_) (fun u21 => by exfalso; omega)
            refine w_aload_n gz_56_38 rfl ?_
            refine v_getR (j := 2) gz_56_39 rfl is_82 rd_5 rfl (fun v22 ev22 tv22 => ?_)
            have zv22 : v5 = v22 := (ev22.trans ev5.symm).symm
            subst zv22
            refine w_iload_n gz_56_42 rfl ?_
            refine w_iinc (ls' := [(2, 82), (0, (p2_0 + 1)), (0, v14)]) gz_56_43 rfl gm_56 rfl rfl rfl ⟨by omega, by omega⟩ ?_
            refine w_iload_n gz_56_46 rfl ?_
            have ce23 : h2_0 82 2 = v5 := ev5.symm
            have sv : v5 = h2_0 82 2 := by omega
            have pk7 := n_Pk_2_0
            refine v_knowA (x := (v5 + 5)) (ix_4_5 tv5) rd_36 (fun kA => ?_)
            have hp7 : p2_0 ≤ 7 := by
              rw [sv] at kA s5a
              have np2 := np
              rw [sv] at np2
              exact pick7 (f := fun i => h2_0 (h2_0 82 2 + 5) (h2_0 (h2_0 82 2) 9 * 8 + i)) (by omega) (fun i a b => kA _ (by omega) (by omega)) (fun i j a b c => pk7 i j a b c) (by omega) (by omega) (fun i a b => np2 i a b)
            have hi24 : 0 ≤ p2_0 := by omega
            have hi25 : p2_0 ≤ 7 := by omega
            refine w_inv (k := 0) (as := [(0, v14), (0, p2_0)]) (r := []) (x := v5) (ls0 := [(2, v5), (0, p2_0), (0, v14)]) gz_56_47 gm_58 rfl tv5 rd_4 rfl rfl rfl rfl rfl ?_
            refine w_aload_n gz_58_0 rfl ?_
            refine w_getX (v := (v5 + 5)) gz_58_1 tv5 rd_4 rfl (by decide) rfl ?_
            refine w_aload_n gz_58_4 rfl ?_
            refine v_getI (j := 9) gz_58_5 rfl tv5 rd_4 rfl (fun v27 ev27 pv27 qv27 => ?_)
            refine w_bipush gz_58_8 (by decide) ?_
            refine w_imul gz_58_10 ⟨by omega, by omega⟩ ?_
            refine w_iload_n gz_58_11 rfl ?_
            refine w_iadd gz_58_12 ⟨by omega, by omega⟩ ?_
            refine w_iload_n gz_58_13 rfl ?_
            have hi28 : 0 ≤ ((v27 * 8) + p2_0) := by omega
            have hi29 : ((v27 * 8) + p2_0) ≤ 47 := by omega
            refine w_iast gz_58_14 (ix_4_5 tv5) rd_36 (by omega) (by omega) (by omega) (by omega) (fun h30 fh30 => ?_)
            have gh30 : my_fr [(4, 4), (4, 5), (4, 9), (5, 5), (5, 6), (5, 7), (5, 8), (5, 9), (32, -1), (33, -1), (34, -1), (35, -1), (36, -1), (37, -1), (39, -1)] h h30 := my_fr.up gh_2_0 (ix_4_5 tv5) fh30 rfl
            have Ln_h30 : Ln h30 := Ln_ag (my_ag.up fh30 (ix_4_5 tv5) rfl) n_Ln_2_0
            have Sp_h30 : Sp h30 wv := Sp_ag (my_ag.up fh30 (ix_4_5 tv5) rfl) hwv n_Ln_2_0 n_Sp_2_0
            have St5_h30 : St5 h30 := St5_ag (my_ag.up fh30 (ix_4_5 tv5) rfl) n_Ln_2_0 n_St5_2_0
            have Al_h30 : Al h30 := Al_ag (my_ag.up fh30 (ix_4_5 tv5) rfl) n_Al_2_0
            have Cu_h30 : Cu h30 := Cu_ag (my_ag.up fh30 (ix_4_5 tv5) rfl) n_Cu_2_0
            have Lo_h30 : Lo h h30 := Lo_ag (my_ag.up fh30 (ix_4_5 tv5) rfl) n_Ln_2_0 n_Lo_2_0
            refine w_vret gz_58_15 gm_58 ?_
            show wp l rho (d + 2) 56 50 [(2, 82), (0, (p2_0 + 1)), (0, v14)] [] h30 Q
            have Pk_h30t31 : Pk h30 (p2_0 + 1) := Pk_add n_Ln_2_0 n_Pk_2_0 sv (by omega) fh30 np
            have pks : ∀ u : Int, PkS h30 (p2_0 + 1) u ↔ (PkS h2_0 p2_0 u ∨ u = v14) := PkS_up n_Ln_2_0 sv (by omega) (by omega) fh30
            refine w_aload_n gz_56_50 rfl ?_
            refine w_inv (k := 2) (as := []) (r := []) (x := 82) (ls0 := [(2, 82), (9, 0), (9, 0)]) gz_56_51 gm_37 rfl is_82 rd_5 rfl rfl rfl rfl rfl (c_Reader_nextToken9_f0 (d := d)  (((my_up_role fh30 is_82 (ix_4_5 tv5) rfl).trans ev12.symm).trans (by omega)) Al_h30 (fun h32 frh32 w33 w34 w35 xp36 xp37 Al_h32t38 Cu_h32t39 => ?_))
            have gh32 : my_fr [(4, 4), (4, 5), (4, 9), (5, 5), (5, 6), (5, 7), (5, 8), (5, 9), (32, -1), (33, -1), (34, -1), (35, -1), (36, -1), (37, -1), (39, -1)] h h32 := my_fr.tr gh30 (frh32.mo rfl)
            have Ln_h32 : Ln h32 := Ln_ag (my_ag.fr frh32 rfl) Ln_h30
            have Sp_h32 : Sp h32 wv := Sp_ag (my_ag.fr frh32 rfl) hwv Ln_h30 Sp_h30
            have St5_h32 : St5 h32 := St5_ag (my_ag.fr frh32 rfl) Ln_h30 St5_h30
            have Lo_h32 : Lo h h32 := Lo_ag (my_ag.fr frh32 rfl) Ln_h30 Lo_h30
            have Pk_h32 : Pk h32 (p2_0 + 1) := Pk_ag (my_ag.fr frh32 rfl) Ln_h30 Pk_h30t31
            show wp l rho (d + 2) 56 54 [(2, 82), (0, (p2_0 + 1)), (0, v14)] [] h32 Q
            have xc40 := xp36 Cu_h30
            have tE41 : cs h30 = cs h := cs_eq (fun j => my_fr.at gh30 is_92 rfl) (my_fr.at gh30 is_82 rfl)
            rw [tE41] at xc40
            have ps42 : h30 82 7 = h2_0 82 7 := ((my_up_role fh30 is_82 (ix_4_5 tv5) rfl).trans (rfl : h2_0 82 7 = h2_0 82 7))
            rw [ps42] at xc40
            have ck43 := Cu_s Cu_h32t39
            rw [show cs h32 = cs h from cs_eq (fun j => my_fr.at gh32 is_92 rfl) (my_fr.at gh32 is_82 rfl)] at ck43
            rw [show h32 82 7 = (sN (cs h) ((h2_0 82 7))) from xc40] at ck43
            have cv44 := Cu_v Cu_h32t39
            rw [show cs h32 = cs h from cs_eq (fun j => my_fr.at gh32 is_92 rfl) (my_fr.at gh32 is_82 rfl)] at cv44
            rw [show h32 82 7 = (sN (cs h) ((h2_0 82 7))) from xc40] at cv44
            have pk2 : ∀ u : Int, PkS h32 (p2_0 + 1) u ↔ PkS h30 (p2_0 + 1) u := fun u => PkS_ag (my_ag.fr frh32 rfl) Ln_h30 u
            refine w_aload_n gz_56_54 rfl ?_
            refine v_getI (j := 6) gz_56_55 rfl is_82 rd_5 rfl (fun v45 ev45 pv45 qv45 => ?_)
            have zv45 := ev45.trans (rfl : h32 82 6 = h32 82 6)
            refine w_iconst gz_56_58 (by decide) ?_
            refine w_iceq (t := 68) gz_56_59 rfl (fun u46 => ?_) (fun u46 => ?_)
            ·
              refine w_aload_n gz_56_68 rfl ?_
              refine w_inv (k := 2) (as := []) (r := []) (x := 82) (ls0 := [(2, 82), (9, 0), (9, 0)]) gz_56_69 gm_37 rfl is_82 rd_5 rfl rfl rfl rfl rfl (c_Reader_nextToken9_f0 (d := d)  (((my_fr.at frh32 is_82 rfl).trans ((my_up_role fh30 is_82 (ix_4_5 tv5) rfl).trans ev12.symm)).trans (by omega)) Al_h32t38 (fun h47 frh47 w48 w49 w50 xp51 xp52 Al_h47t53 Cu_h47t54 => ?_))
              have gh47 : my_fr [(4, 4), (4, 5), (4, 9), (5, 5), (5, 6), (5, 7), (5, 8), (5, 9), (32, -1), (33, -1), (34, -1), (35, -1), (36, -1), (37, -1), (39, -1)] h h47 := my_fr.tr gh32 (frh47.mo rfl)
              have Ln_h47 : Ln h47 := Ln_ag (my_ag.fr frh47 rfl) Ln_h32
              have Sp_h47 : Sp h47 wv := Sp_ag (my_ag.fr frh47 rfl) hwv Ln_h32 Sp_h32
              have St5_h47 : St5 h47 := St5_ag (my_ag.fr frh47 rfl) Ln_h32 St5_h32
              have Lo_h47 : Lo h h47 := Lo_ag (my_ag.fr frh47 rfl) Ln_h32 Lo_h32
              have Pk_h47 : Pk h47 (p2_0 + 1) := Pk_ag (my_ag.fr frh47 rfl) Ln_h32 Pk_h32
              show wp l rho (d + 2) 56 72 [(2, 82), (0, (p2_0 + 1)), (0, v14)] [] h47 Q
              have xc55 := xp51 Cu_h32t39
              have tE56 : cs h32 = cs h := cs_eq (fun j => my_fr.at gh32 is_92 rfl) (my_fr.at gh32 is_82 rfl)
              rw [tE56] at xc55
              have ps57 : h32 82 7 = (sN (cs h) ((h2_0 82 7))) := xc40
              rw [ps57] at xc55
              have ck58 := Cu_s Cu_h47t54
              rw [show cs h47 = cs h from cs_eq (fun j => my_fr.at gh47 is_92 rfl) (my_fr.at gh47 is_82 rfl)] at ck58
              rw [show h47 82 7 = (sN (cs h) (((sN (cs h) ((h2_0 82 7)))))) from xc55] at ck58
              have cv59 := Cu_v Cu_h47t54
              rw [show cs h47 = cs h from cs_eq (fun j => my_fr.at gh47 is_92 rfl) (my_fr.at gh47 is_82 rfl)] at cv59
              rw [show h47 82 7 = (sN (cs h) (((sN (cs h) ((h2_0 82 7)))))) from xc55] at cv59
              refine w_aload_n gz_56_72 rfl ?_
              refine v_getR (j := 2) gz_56_73 rfl is_82 rd_5 rfl (fun v60 ev60 tv60 => ?_)
              have zv60 : v5 = v60 := (ev60.trans ((my_fr.at frh47 is_82 rfl).trans ((my_fr.at frh32 is_82 rfl).trans ((my_up_role fh30 is_82 (ix_4_5 tv5) rfl).trans ev5.symm)))).symm
              subst zv60
              refine w_iload_n gz_56_76 rfl ?_
              have ce61 : h47 82 2 = v5 := ((my_fr.at frh47 is_82 rfl).trans ((my_fr.at frh32 is_82 rfl).trans ((my_up_role fh30 is_82 (ix_4_5 tv5) rfl).trans ev5.symm)))
              have s5a := St5_h47
              have s5e : v5 = h47 82 2 := by first | assumption | omega
              unfold St5 at s5a
              rw [← s5e] at s5a
              have ce62 : h47 82 2 = v5 := ((my_fr.at frh47 is_82 rfl).trans ((my_fr.at frh32 is_82 rfl).trans ((my_up_role fh30 is_82 (ix_4_5 tv5) rfl).trans ev5.symm)))
              have ce63 : h47 v5 1 = h2_0 v5 1 := ((my_fr.at frh47 tv5 rfl).trans ((my_fr.at frh32 tv5 rfl).trans ((my_up_role fh30 tv5 (ix_4_5 tv5) rfl).trans (rfl : h2_0 v5 1 = h2_0 v5 1))))
              have ce64 : h47 v5 3 = h2_0 v5 3 := ((my_fr.at frh47 tv5 rfl).trans ((my_fr.at frh32 tv5 rfl).trans ((my_up_role fh30 tv5 (ix_4_5 tv5) rfl).trans (rfl : h2_0 v5 3 = h2_0 v5 3))))
              have ce65 : h47 v5 4 = h2_0 v5 4 := ((my_fr.at frh47 tv5 rfl).trans ((my_fr.at frh32 tv5 rfl).trans ((my_up_role fh30 tv5 (ix_4_5 tv5) rfl).trans (rfl : h2_0 v5 4 = h2_0 v5 4))))
              have ce66 : h47 v5 9 = h2_0 v5 9 := ((my_fr.at frh47 tv5 rfl).trans ((my_fr.at frh32 tv5 rfl).trans ((my_up_role fh30 tv5 (ix_4_5 tv5) rfl).trans (rfl : h2_0 v5 9 = h2_0 v5 9))))
              have sE : v5 = h 82 2 := by omega
              have eS1 : h47 v5 1 = h v5 1 := by
                have a := f1_2_0
                rw [← sE] at a
                omega
              have eS3 : h47 v5 3 = h v5 3 := by
                have a := f3_2_0
                rw [← sE] at a
                omega
              have eS4 : h47 v5 4 = h v5 4 := by
                have a := f4_2_0
                rw [← sE] at a
                omega
              have eS9 : h47 v5 9 = h v5 9 := by
                have a := f9_2_0
                rw [← sE] at a
                omega
              have hi67 : 1 ≤ (p2_0 + 1) := by omega
              have hi68 : (p2_0 + 1) ≤ 8 := by omega
              refine w_inv (k := 1) (as := [(0, (p2_0 + 1))]) (r := []) (x := v5) (ls0 := [(2, v5), (0, (p2_0 + 1)), (9, 0)]) gz_56_77 gm_59 rfl tv5 rd_4 rfl rfl rfl rfl rfl (c_Lens_addFew (d := d) (x0 := v5) (x1 := (p2_0 + 1)) tv5 (by omega) (by omega) (by first | assumption | exact no_such_saying | exact Fp_told (by omega) (by omega) | omega | (subst_vars; omega) | omega) (fun h69 frh69 fxh69 w70 w71 w72 w73 xp74 => ?_))
              have gh69 : my_fr [(4, 4), (4, 5), (4, 9), (5, 5), (5, 6), (5, 7), (5, 8), (5, 9), (32, -1), (33, -1), (34, -1), (35, -1), (36, -1), (37, -1), (39, -1)] h h69 := my_fr.tr gh47 (frh69.mo rfl)
              have Ln_h69 : Ln h69 := Ln_fx fxh69 (by first | assumption | omega) Ln_h47
              have Lo_h69 : Lo h h69 := Lo_fx fxh69 (by first | assumption | omega) Ln_h47 Lo_h47
              have Al_h69 : Al h69 := Al_ag (my_ag.fr frh69 rfl) Al_h47t53
              have Cu_h69 : Cu h69 := Cu_ag (my_ag.fr frh69 rfl) Cu_h47t54
              show wp l rho (d + 2) 56 80 [(2, 82), (0, (p2_0 + 1)), (0, v14)] [] h69 Q
              have ce75 : h69 82 2 = v5 := ((my_fr.at frh69 is_82 rfl).trans ((my_fr.at frh47 is_82 rfl).trans ((my_fr.at frh32 is_82 rfl).trans ((my_up_role fh30 is_82 (ix_4_5 tv5) rfl).trans ev5.symm))))
              have Sp_h69t76 : Sp h69 wv := Sp_add fxh69 (by first | assumption | omega) hwv Ln_h47 Sp_h47 xp74 (by have := St5_h47.1; omega) (by omega) (by omega)
              have std := Std_add xp74 sE (by omega) eS3 eS4 eS9 eS1
              have psR : h69 82 7 = (sN (cs h) (((sN (cs h) ((h2_0 82 7)))))) := ((my_fr.at frh69 is_82 rfl).trans xc55)
              have npsR : cs h69 = cs h := cs_eq (fun j => my_fr.at gh69 is_92 rfl) (my_fr.at gh69 is_82 rfl)
              have c77 := ((my_fr.at frh69 is_82 rfl).trans ((my_fr.at frh47 is_82 rfl).trans ((my_fr.at frh32 is_82 rfl).trans ((my_up_role fh30 is_82 (ix_4_5 tv5) rfl).trans ev12.symm))))
              exact w_vret gz_56_80 gm_56 (k1 h69 (gh69) (by omega) (by first | exact Lo_h69 | exact ⟨std.1, std.2.1, rfl, std.2.2.2⟩ | exact fwI_e fw_2_0 rfl (by omega) (by omega) (by omega) npk (by omega) (by omega) psR std.2.2.1 | exact fwI_3 fw_2_0 rfl (by omega) (by omega) (by omega) ipk (by omega) | exact fwI_1 fw_2_0 rfl (by first | exact Or.inl ⟨by omega, by omega⟩ | exact Or.inr (Or.inl ⟨by omega, by omega, by omega⟩)) | omega) (by first | exact Lo_h69 | exact ⟨std.1, std.2.1, rfl, std.2.2.2⟩ | exact fwI_e fw_2_0 rfl (by omega) (by omega) (by omega) npk (by omega) (by omega) psR std.2.2.1 | exact fwI_3 fw_2_0 rfl (by omega) (by omega) (by omega) ipk (by omega) | exact fwI_1 fw_2_0 rfl (by first | exact Or.inl ⟨by omega, by omega⟩ | exact Or.inr (Or.inl ⟨by omega, by omega, by omega⟩)) | omega) (by first | exact Lo_h69 | exact ⟨std.1, std.2.1, rfl, std.2.2.2⟩ | exact fwI_e fw_2_0 rfl (by omega) (by omega) (by omega) npk (by omega) (by omega) psR std.2.2.1 | exact fwI_3 fw_2_0 rfl (by omega) (by omega) (by omega) ipk (by omega) | exact fwI_1 fw_2_0 rfl (by first | exact Or.inl ⟨by omega, by omega⟩ | exact Or.inr (Or.inl ⟨by omega, by omega, by omega⟩)) | omega) Ln_h69 Sp_h69t76 Al_h69 Cu_h69)
            ·
              refine w_iload_n gz_56_62 rfl ?_
              refine w_bipush gz_56_63 (by decide) ?_
              refine w_icle (t := 2) gz_56_65 rfl (fun u78 => ?_) (fun u78 => by exfalso; omega)
              have psJ : h32 82 7 = (sN (cs h) ((h2_0 82 7))) := xc40
              have npsJ : cs h32 = cs h := cs_eq (fun j => my_fr.at gh32 is_92 rfl) (my_fr.at gh32 is_82 rfl)
              have ce79 : h32 82 2 = v5 := ((my_fr.at frh32 is_82 rfl).trans ((my_up_role fh30 is_82 (ix_4_5 tv5) rfl).trans ev5.symm))
              have hL : my_is 4 (h 82 2) := n_Ln.2.2.2.1
              have ce80 : h32 v5 1 = h2_0 v5 1 := ((my_fr.at frh32 tv5 rfl).trans ((my_up_role fh30 tv5 (ix_4_5 tv5) rfl).trans (rfl : h2_0 v5 1 = h2_0 v5 1)))
              have ce81 : h32 v5 3 = h2_0 v5 3 := ((my_fr.at frh32 tv5 rfl).trans ((my_up_role fh30 tv5 (ix_4_5 tv5) rfl).trans (rfl : h2_0 v5 3 = h2_0 v5 3)))
              have ce82 : h32 v5 4 = h2_0 v5 4 := ((my_fr.at frh32 tv5 rfl).trans ((my_up_role fh30 tv5 (ix_4_5 tv5) rfl).trans (rfl : h2_0 v5 4 = h2_0 v5 4)))
              have ce83 : h32 v5 9 = h2_0 v5 9 := ((my_fr.at frh32 tv5 rfl).trans ((my_up_role fh30 tv5 (ix_4_5 tv5) rfl).trans (rfl : h2_0 v5 9 = h2_0 v5 9)))
              refine w_weak (ls' := [(2, 82), (0, (p2_0 + 1)), (9, 0)]) (wk_e (wk_e (wk_9 wk_n))) ?_
              exact ih_2_0 ((p2_0 + 1)) h32 (gh32) (by omega) (by omega) (((my_fr.at frh32 is_82 rfl).trans ((my_up_role fh30 is_82 (ix_4_5 tv5) rfl).trans ev12.symm)).trans (by omega)) Ln_h32 Sp_h32 St5_h32 Al_h32t38 Cu_h32t39 Pk_h32 Lo_h32 (by first | exact fwI_0 (by first | rfl | omega) | exact fwI_s fw_2_0 rfl (by omega) (by omega) (by omega) npk (by omega) psJ (fun u => (pk2 u).trans (pks u)) | omega) (by first | rfl | omega) (by first | rfl | omega | (have a := f1_2_0; rw [← sE7] at a ⊢; omega) | omega) (by first | rfl | omega | (have a := f3_2_0; rw [← sE7] at a ⊢; omega) | omega) (by first | rfl | omega | (have a := f4_2_0; rw [← sE7] at a ⊢; omega) | omega) (by first | rfl | omega | (have a := f9_2_0; rw [← sE7] at a ⊢; omega) | omega) (by omega)
          ·
            show wp l rho (d + 2) 56 29 [(2, 82), (0, p2_0), (0, v14)] [(0, 1)] h2_0 Q
            have ipk : PkS h2_0 p2_0 v14 := by
              obtain ⟨i, a, b, d⟩ := xp20
              rw [s5e] at d
              exact ⟨i, a, b, d⟩
            refine w_ifeq (t := 38) gz_56_29 rfl (fun u84 => by exfalso; omega) (fun u84 => ?_)
            refine w_aload_n gz_56_32 rfl ?_
            refine w_iconst gz_56_33 (by decide) ?_
            refine w_inv (k := 0) (as := [(0, 3)]) (r := []) (x := 82) (ls0 := [(2, 82), (0, 3)]) gz_56_34 gm_42 rfl is_82 rd_5 rfl rfl rfl rfl rfl ?_
            refine w_aload_n gz_42_0 rfl ?_
            refine v_getI (j := 9) gz_42_1 rfl is_82 rd_5 rfl (fun v85 ev85 pv85 qv85 => ?_)
            have zv85 := ev85.trans ev12.symm
            refine w_ifne (t := 20) gz_42_4 rfl (fun u86 => by exfalso; omega) (fun u86 => ?_)
            refine w_aload_n gz_42_7 rfl ?_
            refine w_iload_n gz_42_8 rfl ?_
            refine w_bipush gz_42_9 (by decide) ?_
            refine w_aload_n gz_42_11 rfl ?_
            refine v_getI (j := 7) gz_42_12 rfl is_82 rd_5 rfl (fun v87 ev87 pv87 qv87 => ?_)
            refine w_imul gz_42_15 ⟨by omega, by omega⟩ ?_
            refine w_iadd gz_42_16 ⟨by omega, by omega⟩ ?_
            refine v_putI (j := 9) gz_42_17 rfl is_82 rd_5 rfl (by omega) (by omega) rfl (fun h88 fh88 => ?_)
            have gh88 : my_fr [(4, 4), (4, 5), (4, 9), (5, 5), (5, 6), (5, 7), (5, 8), (5, 9), (32, -1), (33, -1), (34, -1), (35, -1), (36, -1), (37, -1), (39, -1)] h h88 := my_fr.up gh_2_0 is_82 fh88 rfl
            have Ln_h88 : Ln h88 := Ln_ag (my_ag.up fh88 is_82 rfl) n_Ln_2_0
            have Sp_h88 : Sp h88 wv := Sp_ag (my_ag.up fh88 is_82 rfl) hwv n_Ln_2_0 n_Sp_2_0
            have St5_h88 : St5 h88 := St5_ag (my_ag.up fh88 is_82 rfl) n_Ln_2_0 n_St5_2_0
            have Al_h88 : Al h88 := Al_ag (my_ag.up fh88 is_82 rfl) n_Al_2_0
            have Cu_h88 : Cu h88 := Cu_ag (my_ag.up fh88 is_82 rfl) n_Cu_2_0
            have Pk_h88 : Pk h88 p2_0 := Pk_ag (my_ag.up fh88 is_82 rfl) n_Ln_2_0 n_Pk_2_0
            have Lo_h88 : Lo h h88 := Lo_ag (my_ag.up fh88 is_82 rfl) n_Ln_2_0 n_Lo_2_0
            refine w_vret gz_42_20 gm_42 ?_
            show wp l rho (d + 2) 56 37 [(2, 82), (0, p2_0), (0, v14)] [] h88 Q
            have psR : h88 82 7 = h2_0 82 7 := ((my_up_fld fh88 (by decide)).trans (rfl : h2_0 82 7 = h2_0 82 7))
            have npsR : cs h88 = cs h := cs_eq (fun j => my_fr.at gh88 is_92 rfl) (my_fr.at gh88 is_82 rfl)
            have c89 := (my_up_self fh88)
            exact w_vret gz_56_37 gm_56 (k0 h88 (gh88) (by omega) (by omega) (by first | exact Lo_h88 | exact ⟨std.1, std.2.1, rfl, std.2.2.2⟩ | exact fwI_e fw_2_0 rfl (by omega) (by omega) (by omega) npk (by omega) (by omega) psR std.2.2.1 | exact fwI_3 fw_2_0 rfl (by omega) (by omega) (by omega) ipk (by omega) | exact fwI_1 fw_2_0 rfl (by first | exact Or.inl ⟨by omega, by omega⟩ | exact Or.inr (Or.inl ⟨by omega, by omega, by omega⟩)) | omega) (by first | exact Lo_h88 | exact ⟨std.1, std.2.1, rfl, std.2.2.2⟩ | exact fwI_e fw_2_0 rfl (by omega) (by omega) (by omega) npk (by omega) (by omega) psR std.2.2.1 | exact fwI_3 fw_2_0 rfl (by omega) (by omega) (by omega) ipk (by omega) | exact fwI_1 fw_2_0 rfl (by first | exact Or.inl ⟨by omega, by omega⟩ | exact Or.inr (Or.inl ⟨by omega, by omega, by omega⟩)) | omega) Ln_h88 Sp_h88 Al_h88 Cu_h88)
        ·
          refine w_aload_n gz_44_23 rfl ?_
          refine w_iconst gz_44_24 (by decide) ?_
          refine w_inv (k := 0) (as := [(0, 4)]) (r := []) (x := 82) (ls0 := [(2, 82), (0, 4)]) gz_44_25 gm_42 rfl is_82 rd_5 rfl rfl rfl rfl rfl ?_
          refine w_aload_n gz_42_0 rfl ?_
          refine v_getI (j := 9) gz_42_1 rfl is_82 rd_5 rfl (fun v90 ev90 pv90 qv90 => ?_)
          have zv90 := ev90.trans c82_9_2_0
          refine w_ifne (t := 20) gz_42_4 rfl (fun u91 => by exfalso; omega) (fun u91 => ?_)
          refine w_aload_n gz_42_7 rfl ?_
          refine w_iload_n gz_42_8 rfl ?_
          refine w_bipush gz_42_9 (by decide) ?_
          refine w_aload_n gz_42_11 rfl ?_
          refine v_getI (j := 7) gz_42_12 rfl is_82 rd_5 rfl (fun v92 ev92 pv92 qv92 => ?_)
          refine w_imul gz_42_15 ⟨by omega, by omega⟩ ?_
          refine w_iadd gz_42_16 ⟨by omega, by omega⟩ ?_
          refine v_putI (j := 9) gz_42_17 rfl is_82 rd_5 rfl (by omega) (by omega) rfl (fun h93 fh93 => ?_)
          have gh93 : my_fr [(4, 4), (4, 5), (4, 9), (5, 5), (5, 6), (5, 7), (5, 8), (5, 9), (32, -1), (33, -1), (34, -1), (35, -1), (36, -1), (37, -1), (39, -1)] h h93 := my_fr.up gh_2_0 is_82 fh93 rfl
          have Ln_h93 : Ln h93 := Ln_ag (my_ag.up fh93 is_82 rfl) n_Ln_2_0
          have Sp_h93 : Sp h93 wv := Sp_ag (my_ag.up fh93 is_82 rfl) hwv n_Ln_2_0 n_Sp_2_0
          have St5_h93 : St5 h93 := St5_ag (my_ag.up fh93 is_82 rfl) n_Ln_2_0 n_St5_2_0
          have Al_h93 : Al h93 := Al_ag (my_ag.up fh93 is_82 rfl) n_Al_2_0
          have Cu_h93 : Cu h93 := Cu_ag (my_ag.up fh93 is_82 rfl) n_Cu_2_0
          have Pk_h93 : Pk h93 p2_0 := Pk_ag (my_ag.up fh93 is_82 rfl) n_Ln_2_0 n_Pk_2_0
          have Lo_h93 : Lo h h93 := Lo_ag (my_ag.up fh93 is_82 rfl) n_Ln_2_0 n_Lo_2_0
          refine w_vret gz_42_20 gm_42 ?_
          show wp l rho (d + 1) 44 28 [(2, 82), (0, v7)] [] h93 _
          refine w_iconst gz_44_28 (by decide) ?_
          refine w_iret gz_44_29 gm_44 ?_
          show wp l rho (d + 2) 56 13 [(2, 82), (0, p2_0), (9, 0)] [(0, (-1))] h93 Q
          refine w_istore_n (ls' := [(2, 82), (0, p2_0), (0, (-1))]) gz_56_13 gm_56 rfl rfl rfl ?_
          refine w_iload_n gz_56_14 rfl ?_
          refine w_iconst gz_56_15 (by decide) ?_
          refine w_icne (t := 20) gz_56_16 rfl (fun u94 => by exfalso; omega) (fun u94 => ?_)
          have psR : h93 82 7 = h2_0 82 7 := ((my_up_fld fh93 (by decide)).trans (rfl : h2_0 82 7 = h2_0 82 7))
          have npsR : cs h93 = cs h := cs_eq (fun j => my_fr.at gh93 is_92 rfl) (my_fr.at gh93 is_82 rfl)
          have c95 := (my_up_self fh93)
          exact w_vret gz_56_19 gm_56 (k0 h93 (gh93) (by omega) (by omega) (by first | exact Lo_h93 | exact ⟨std.1, std.2.1, rfl, std.2.2.2⟩ | exact fwI_e fw_2_0 rfl (by omega) (by omega) (by omega) npk (by omega) (by omega) psR std.2.2.1 | exact fwI_3 fw_2_0 rfl (by omega) (by omega) (by omega) ipk (by omega) | exact fwI_1 fw_2_0 rfl (by first | exact Or.inl ⟨by omega, by omega⟩ | exact Or.inr (Or.inl ⟨by omega, by omega, by omega⟩)) | omega) (by first | exact Lo_h93 | exact ⟨std.1, std.2.1, rfl, std.2.2.2⟩ | exact fwI_e fw_2_0 rfl (by omega) (by omega) (by omega) npk (by omega) (by omega) psR std.2.2.1 | exact fwI_3 fw_2_0 rfl (by omega) (by omega) (by omega) ipk (by omega) | exact fwI_1 fw_2_0 rfl (by first | exact Or.inl ⟨by omega, by omega⟩ | exact Or.inr (Or.inl ⟨by omega, by omega, by omega⟩)) | omega) Ln_h93 Sp_h93 Al_h93 Cu_h93)
      ·
        refine w_aload_n gz_44_8 rfl ?_
        refine w_iconst gz_44_9 (by decide) ?_
        refine w_inv (k := 0) (as := [(0, 1)]) (r := []) (x := 82) (ls0 := [(2, 82), (0, 1)]) gz_44_10 gm_42 rfl is_82 rd_5 rfl rfl rfl rfl rfl ?_
        refine w_aload_n gz_42_0 rfl ?_
        refine v_getI (j := 9) gz_42_1 rfl is_82 rd_5 rfl (fun v96 ev96 pv96 qv96 => ?_)
        have zv96 := ev96.trans c82_9_2_0
        refine w_ifne (t := 20) gz_42_4 rfl (fun u97 => by exfalso; omega) (fun u97 => ?_)
        refine w_aload_n gz_42_7 rfl ?_
        refine w_iload_n gz_42_8 rfl ?_
        refine w_bipush gz_42_9 (by decide) ?_
        refine w_aload_n gz_42_11 rfl ?_
        refine v_getI (j := 7) gz_42_12 rfl is_82 rd_5 rfl (fun v98 ev98 pv98 qv98 => ?_)
        refine w_imul gz_42_15 ⟨by omega, by omega⟩ ?_
        refine w_iadd gz_42_16 ⟨by omega, by omega⟩ ?_
        refine v_putI (j := 9) gz_42_17 rfl is_82 rd_5 rfl (by omega) (by omega) rfl (fun h99 fh99 => ?_)
        have gh99 : my_fr [(4, 4), (4, 5), (4, 9), (5, 5), (5, 6), (5, 7), (5, 8), (5, 9), (32, -1), (33, -1), (34, -1), (35, -1), (36, -1), (37, -1), (39, -1)] h h99 := my_fr.up gh_2_0 is_82 fh99 rfl
        have Ln_h99 : Ln h99 := Ln_ag (my_ag.up fh99 is_82 rfl) n_Ln_2_0
        have Sp_h99 : Sp h99 wv := Sp_ag (my_ag.up fh99 is_82 rfl) hwv n_Ln_2_0 n_Sp_2_0
        have St5_h99 : St5 h99 := St5_ag (my_ag.up fh99 is_82 rfl) n_Ln_2_0 n_St5_2_0
        have Al_h99 : Al h99 := Al_ag (my_ag.up fh99 is_82 rfl) n_Al_2_0
        have Cu_h99 : Cu h99 := Cu_ag (my_ag.up fh99 is_82 rfl) n_Cu_2_0
        have Pk_h99 : Pk h99 p2_0 := Pk_ag (my_ag.up fh99 is_82 rfl) n_Ln_2_0 n_Pk_2_0
        have Lo_h99 : Lo h h99 := Lo_ag (my_ag.up fh99 is_82 rfl) n_Ln_2_0 n_Lo_2_0
        refine w_vret gz_42_20 gm_42 ?_
        show wp l rho (d + 1) 44 13 [(2, 82), (0, v7)] [] h99 _
        refine w_iconst gz_44_13 (by decide) ?_
        refine w_iret gz_44_14 gm_44 ?_
        show wp l rho (d + 2) 56 13 [(2, 82), (0, p2_0), (9, 0)] [(0, (-1))] h99 Q
        refine w_istore_n (ls' := [(2, 82), (0, p2_0), (0, (-1))]) gz_56_13 gm_56 rfl rfl rfl ?_
        refine w_iload_n gz_56_14 rfl ?_
        refine w_iconst gz_56_15 (by decide) ?_
        refine w_icne (t := 20) gz_56_16 rfl (fun u100 => by exfalso; omega) (fun u100 => ?_)
        have psR : h99 82 7 = h2_0 82 7 := ((my_up_fld fh99 (by decide)).trans (rfl : h2_0 82 7 = h2_0 82 7))
        have npsR : cs h99 = cs h := cs_eq (fun j => my_fr.at gh99 is_92 rfl) (my_fr.at gh99 is_82 rfl)
        have c101 := (my_up_self fh99)
        exact w_vret gz_56_19 gm_56 (k0 h99 (gh99) (by omega) (by omega) (by first | exact Lo_h99 | exact ⟨std.1, std.2.1, rfl, std.2.2.2⟩ | exact fwI_e fw_2_0 rfl (by omega) (by omega) (by omega) npk (by omega) (by omega) psR std.2.2.1 | exact fwI_3 fw_2_0 rfl (by omega) (by omega) (by omega) ipk (by omega) | exact fwI_1 fw_2_0 rfl (by first | exact Or.inl ⟨by omega, by omega⟩ | exact Or.inr (Or.inl ⟨by omega, by omega, by omega⟩)) | omega) (by first | exact Lo_h99 | exact ⟨std.1, std.2.1, rfl, std.2.2.2⟩ | exact fwI_e fw_2_0 rfl (by omega) (by omega) (by omega) npk (by omega) (by omega) psR std.2.2.1 | exact fwI_3 fw_2_0 rfl (by omega) (by omega) (by omega) ipk (by omega) | exact fwI_1 fw_2_0 rfl (by first | exact Or.inl ⟨by omega, by omega⟩ | exact Or.inr (Or.inl ⟨by omega, by omega, by omega⟩)) | omega) Ln_h99 Sp_h99 Al_h99 Cu_h99)
  refine w_iconst gz_56_0 (by decide) ?_
  refine w_istore_n (ls' := [(2, 82), (0, 0), (9, 0)]) gz_56_1 gm_56 rfl rfl rfl ?_
  have psJ : h 82 7 = h 82 7 := (rfl : h 82 7 = h 82 7)
  have npsJ : cs h = cs h := rfl
  have hL : my_is 4 (h 82 2) := n_Ln.2.2.2.1
  exact J2_0 9 (0) h (my_fr.rf) (by omega) (by omega) (cf.trans (by omega)) n_Ln n_Sp n_St5 n_Al n_Cu (fun i j a b c => absurd c (by omega)) (Lo_rf) (by first | exact fwI_0 (by first | rfl | omega) | exact fwI_s fw_2_0 rfl (by omega) (by omega) (by omega) npk (by omega) psJ (fun u => (pk2 u).trans (pks u)) | omega) (by first | rfl | omega) (by first | rfl | omega | (have a := f1_2_0; rw [← sE7] at a ⊢; omega) | omega) (by first | rfl | omega | (have a := f3_2_0; rw [← sE7] at a ⊢; omega) | omega) (by first | rfl | omega | (have a := f4_2_0; rw [← sE7] at a ⊢; omega) | omega) (by first | rfl | omega | (have a := f9_2_0; rw [← sE7] at a ⊢; omega) | omega) (by omega)
theorem c_Reader_readJoin9_f0 {l : Launch} {rho : Nat → Int32} {d : Nat} {h : my_H} {Q : my_H → my_V → Prop} {wv : Int} (cf : h 82 9 = 0) (hwv : wv ≤ 5) (hwv0 : 0 ≤ wv) (n_Ln : Ln h) (n_Sp : Sp h wv) (n_St5 : St5 h) (n_Al : Al h) (n_Cu : Cu h) (k0 : ∀ (h' : my_H), my_fr [(4, 4), (4, 5), (4, 6), (4, 8), (4, 9), (5, 5), (5, 6), (5, 7), (5, 8), (5, 9), (32, -1), (33, -1), (34, -1), (35, -1), (37, -1)] h h' → 1 ≤ h' 82 9 → h' 82 9 ≤ 16005 → joinR (cs h) (h 2) (h 82 7) (h (h 82 2) 4) (h' 82 9) (h' 82 7) → Lo h h' → Ln h' → Sp h' wv → Al h' → Cu h' → Q h' (9, 0)) (k1 : ∀ (h' : my_H), my_fr [(4, 4), (4, 5), (4, 6), (4, 8), (4, 9), (5, 5), (5, 6), (5, 7), (5, 8), (5, 9), (32, -1), (33, -1), (34, -1), (35, -1), (37, -1)] h h' → h' 82 9 = 0 → joinR (cs h) (h 2) (h 82 7) (h (h 82 2) 4) (h' 82 9) (h' 82 7) → Std h h' (h (h 82 2) 4 + h 2 (sV (cs h) (h 82 7)) - 1) (h (h 82 2) 9 + 1) → Lo h h' → Ln h' → Sp h' wv → Al h' → Cu h' → Q h' (9, 0)) : wp l rho (d + 6) 60 0 [(2, 82), (9, 0), (9, 0), (9, 0)] [] h Q := by
  have ck1 := Cu_s n_Cu
  refine w_aload_n gz_60_0 rfl ?_
  refine w_inv (k := 1) (as := []) (r := []) (x := 82) (ls0 := [(2, 82), (9, 0)]) gz_60_1 gm_43 rfl is_82 rd_5 rfl rfl rfl rfl rfl (c_Reader_wallNumber9_f0 (d := (d + 3))  (cf.trans (by omega)) n_Al n_Cu (fun h2 frh2 w3 w4 xp5 Al_h2t6 Cu_h2t7 => ?_) (fun h8 v9 frh8 w10 w11 w12 w13 w14 w15 xp16 xp17 xp18 xp19 Al_h8t20 Cu_h8t21 => ?_))
  ·
    have gh2 : my_fr [(4, 4), (4, 5), (4, 6), (4, 8), (4, 9), (5, 5), (5, 6), (5, 7), (5, 8), (5, 9), (32, -1), (33, -1), (34, -1), (35, -1), (37, -1)] h h2 := my_fr.tr my_fr.rf (frh2.mo rfl)
    have Ln_h2 : Ln h2 := Ln_ag (my_ag.fr frh2 rfl) n_Ln
    have Sp_h2 : Sp h2 wv := Sp_ag (my_ag.fr frh2 rfl) hwv n_Ln n_Sp
    have St5_h2 : St5 h2 := St5_ag (my_ag.fr frh2 rfl) n_Ln n_St5
    have Al_h2 : Al h2 := Al_ag (my_ag.fr frh2 rfl) n_Al
    have Cu_h2 : Cu h2 := Cu_ag (my_ag.fr frh2 rfl) n_Cu
    have Lo_h2 : Lo h h2 := Lo_ag (my_ag.fr frh2 rfl) n_Ln (Lo_rf)
    show wp l rho (d + 6) 60 4 [(2, 82), (9, 0), (9, 0), (9, 0)] [(0, (-1))] h2 Q
    have xw := xp5
    refine w_istore_n (ls' := [(2, 82), (0, (-1)), (9, 0), (9, 0)]) gz_60_4 gm_60 rfl rfl rfl ?_
    refine w_iload_n gz_60_5 rfl ?_
    refine w_iconst gz_60_6 (by decide) ?_
    refine w_icne (t := 11) gz_60_7 rfl (fun u22 => by exfalso; omega) (fun u22 => ?_)
    have psR : h2 82 7 = h 82 7 := ((my_fr.at frh2 is_82 rfl).trans (rfl : h 82 7 = h 82 7))
    have npsR : cs h2 = cs h := cs_eq (fun j => my_fr.at gh2 is_92 rfl) (my_fr.at gh2 is_82 rfl)
    have c23 := (rfl : h2 82 9 = h2 82 9)
    exact w_vret gz_60_10 gm_60 (k0 h2 (gh2) (by omega) (by omega) (by first | exact Lo_h2 | (rw [← w20]; exact std) | (unfold joinR; first | exact (by rcases xw with q | q | q; exact Or.inl ⟨q.1, by omega⟩; exact Or.inr (Or.inl ⟨q.1, q.2.1, by omega⟩); exact Or.inr (Or.inr ⟨q.1, q.2.1, Or.inl ⟨q.2.2.1, by omega⟩⟩)) | exact Or.inr (Or.inr ⟨by omega, by omega, Or.inr (Or.inr ⟨by omega, by omega, Or.inr ⟨by omega, Or.inr (Or.inr ⟨by omega, by omega, Or.inr ⟨by omega, by omega, by omega⟩⟩)⟩⟩)⟩) | exact Or.inr (Or.inr ⟨by omega, by omega, Or.inr (Or.inr ⟨by omega, by omega, Or.inr ⟨by omega, Or.inr (Or.inr ⟨by omega, by omega, Or.inl ⟨by omega, by omega⟩⟩)⟩⟩)⟩) | exact Or.inr (Or.inr ⟨by omega, by omega, Or.inr (Or.inr ⟨by omega, by omega, Or.inr ⟨by omega, or_assoc.mp (Or.inl (by omega))⟩⟩)⟩) | exact Or.inr (Or.inr ⟨by omega, by omega, Or.inr (Or.inr ⟨by omega, by omega, Or.inl ⟨by omega, by omega⟩⟩)⟩) | exact Or.inr (Or.inr ⟨by omega, by omega, Or.inr (Or.inl ⟨by omega, by omega, by omega⟩)⟩) | exact Or.inr (Or.inr ⟨by omega, by omega, Or.inl ⟨by omega, by omega⟩⟩) | exact or_assoc.mp (Or.inl (by omega))) | omega) (by first | exact Lo_h2 | (rw [← w20]; exact std) | (unfold joinR; first | exact (by rcases xw with q | q | q; exact Or.inl ⟨q.1, by omega⟩; exact Or.inr (Or.inl ⟨q.1, q.2.1, by omega⟩); exact Or.inr (Or.inr ⟨q.1, q.2.1, Or.inl ⟨q.2.2.1, by omega⟩⟩)) | exact Or.inr (Or.inr ⟨by omega, by omega, Or.inr (Or.inr ⟨by omega, by omega, Or.inr ⟨by omega, Or.inr (Or.inr ⟨by omega, by omega, Or.inr ⟨by omega, by omega, by omega⟩⟩)⟩⟩)⟩) | exact Or.inr (Or.inr ⟨by omega, by omega, Or.inr (Or.inr ⟨by omega, by omega, Or.inr ⟨by omega, Or.inr (Or.inr ⟨by omega, by omega, Or.inl ⟨by omega, by omega⟩⟩)⟩⟩)⟩) | exact Or.inr (Or.inr ⟨by omega, by omega, Or.inr (Or.inr ⟨by omega, by omega, Or.inr ⟨by omega, or_assoc.mp (Or.inl (by omega))⟩⟩)⟩) | exact Or.inr (Or.inr ⟨by omega, by omega, Or.inr (Or.inr ⟨by omega, by omega, Or.inl ⟨by omega, by omega⟩⟩)⟩) | exact Or.inr (Or.inr ⟨by omega, by omega, Or.inr (Or.inl ⟨by omega, by omega, by omega⟩)⟩) | exact Or.inr (Or.inr ⟨by omega, by omega, Or.inl ⟨by omega, by omega⟩⟩) | exact or_assoc.mp (Or.inl (by omega))) | omega) Ln_h2 Sp_h2 Al_h2t6 Cu_h2t7)
  ·
    have gh8 : my_fr [(4, 4), (4, 5), (4, 6), (4, 8), (4, 9), (5, 5), (5, 6), (5, 7), (5, 8), (5, 9), (32, -1), (33, -1), (34, -1), (35, -1), (37, -1)] h h8 := my_fr.tr my_fr.rf (frh8.mo rfl)
    have Ln_h8 : Ln h8 := Ln_ag (my_ag.fr frh8 rfl) n_Ln
    have Sp_h8 : Sp h8 wv := Sp_ag (my_ag.fr frh8 rfl) hwv n_Ln n_Sp
    have St5_h8 : St5 h8 := St5_ag (my_ag.fr frh8 rfl) n_Ln n_St5
    have Al_h8 : Al h8 := Al_ag (my_ag.fr frh8 rfl) n_Al
    have Cu_h8 : Cu h8 := Cu_ag (my_ag.fr frh8 rfl) n_Cu
    have Lo_h8 : Lo h h8 := Lo_ag (my_ag.fr frh8 rfl) n_Ln (Lo_rf)
    show wp l rho (d + 6) 60 4 [(2, 82), (9, 0), (9, 0), (9, 0)] [(0, v9)] h8 Q
    refine w_istore_n (ls' := [(2, 82), (0, v9), (9, 0), (9, 0)]) gz_60_4 gm_60 rfl rfl rfl ?_
    refine w_iload_n gz_60_5 rfl ?_
    refine w_iconst gz_60_6 (by decide) ?_
    refine w_icne (t := 11) gz_60_7 rfl (fun u24 => ?_) (fun u24 => by exfalso; omega)
    refine w_aload_n gz_60_11 rfl ?_
    refine w_getX (v := 1) gz_60_12 is_82 rd_5 rfl (by decide) rfl ?_
    refine w_getX (v := 2) gz_60_15 is_1 rd_3 rfl (by decide) rfl ?_
    refine w_iload_n gz_60_18 rfl ?_
    refine w_iald gz_60_19 is_2 rd_25 (by omega) (by omega) (fun v27 ev27 pv27 qv27 => ?_)
    have w20 : v27 = h 2 (sV (cs h) (h 82 7)) := by
      rw [← show v9 = sV (cs h) (h 82 7) by omega]
      have z := my_fr.at (j := v9) gh8 is_2 rfl
      omega
    refine w_istore_n (ls' := [(2, 82), (0, v9), (0, v27), (9, 0)]) gz_60_20 gm_60 rfl rfl rfl ?_
    refine w_aload_n gz_60_21 rfl ?_
    have ce28 : h8 82 2 = h 82 2 := ((my_fr.at frh8 is_82 rfl).trans (rfl : h 82 2 = h 82 2))
    refine v_getR (j := 2) gz_60_22 rfl is_82 rd_5 rfl (fun v29 ev29 tv29 => ?_)
    have ce30 : h8 82 2 = v29 := ev29.symm
    have ce31 : h8 v29 4 = h v29 4 := ((my_fr.at frh8 tv29 rfl).trans (rfl : h v29 4 = h v29 4))
    have sE28 : v29 = h 82 2 := by first | assumption | omega
    refine v_getI (j := 4) gz_60_25 rfl tv29 rd_4 rfl (fun v32 ev32 pv32 qv32 => ?_)
    have c28 : v32 = h (h 82 2) 4 := by rw [← sE28]; omega
    refine w_iload_n gz_60_28 rfl ?_
    refine w_iadd gz_60_29 ⟨by omega, by omega⟩ ?_
    refine w_iconst gz_60_30 (by decide) ?_
    refine w_isub gz_60_31 ⟨by omega, by omega⟩ ?_
    refine w_bipush gz_60_32 (by decide) ?_
    refine w_icle (t := 43) gz_60_34 rfl (fun u33 => ?_) (fun u33 => ?_)
    ·
      refine w_aload_n gz_60_43 rfl ?_
      refine w_inv (k := 2) (as := []) (r := []) (x := 82) (ls0 := [(2, 82), (9, 0), (9, 0)]) gz_60_44 gm_37 rfl is_82 rd_5 rfl rfl rfl rfl rfl (c_Reader_nextToken9_f0 (d := (d + 4))  (w15.trans (by omega)) Al_h8t20 (fun h34 frh34 w35 w36 w37 xp38 xp39 Al_h34t40 Cu_h34t41 => ?_))
      have gh34 : my_fr [(4, 4), (4, 5), (4, 6), (4, 8), (4, 9), (5, 5), (5, 6), (5, 7), (5, 8), (5, 9), (32, -1), (33, -1), (34, -1), (35, -1), (37, -1)] h h34 := my_fr.tr gh8 (frh34.mo rfl)
      have Ln_h34 : Ln h34 := Ln_ag (my_ag.fr frh34 rfl) Ln_h8
      have Sp_h34 : Sp h34 wv := Sp_ag (my_ag.fr frh34 rfl) hwv Ln_h8 Sp_h8
      have St5_h34 : St5 h34 := St5_ag (my_ag.fr frh34 rfl) Ln_h8 St5_h8
      have Lo_h34 : Lo h h34 := Lo_ag (my_ag.fr frh34 rfl) Ln_h8 Lo_h8
      show wp l rho (d + 6) 60 47 [(2, 82), (0, v9), (0, v27), (9, 0)] [] h34 Q
      have xc42 := xp38 Cu_h8t21
      have tE43 : cs h8 = cs h := cs_eq (fun j => my_fr.at gh8 is_92 rfl) (my_fr.at gh8 is_82 rfl)
      rw [tE43] at xc42
      have ps44 : h8 82 7 = h 82 7 := ((my_fr.at frh8 is_82 rfl).trans (rfl : h 82 7 = h 82 7))
      rw [ps44] at xc42
      have ck45 := Cu_s Cu_h34t41
      rw [show cs h34 = cs h from cs_eq (fun j => my_fr.at gh34 is_92 rfl) (my_fr.at gh34 is_82 rfl)] at ck45
      rw [show h34 82 7 = (sN (cs h) ((h 82 7))) from xc42] at ck45
      refine w_aload_n gz_60_47 rfl ?_
      refine w_ldcS gz_60_48 (by decide) ?_
      refine w_inv (k := 0) (as := [(3, ((12 : Nat) : Int))]) (r := []) (x := 82) (ls0 := [(2, 82), (3, ((12 : Nat) : Int))]) gz_60_50 gm_40 rfl is_82 rd_5 rfl rfl rfl rfl rfl (c_Reader_takeWord9_f0 (d := d) (x1 := ((12 : Nat) : Int)) (by decide) (((my_fr.at frh34 is_82 rfl).trans w15).trans (by omega)) Al_h34t40 Cu_h34t41 (fun h46 frh46 w47 w48 xp49 xp50 Al_h46t51 Cu_h46t52 => ?_) (fun h53 frh53 w54 xp55 xp56 Al_h53t57 Cu_h53t58 => ?_))
      ·
        have gh46 : my_fr [(4, 4), (4, 5), (4, 6), (4, 8), (4, 9), (5, 5), (5, 6), (5, 7), (5, 8), (5, 9), (32, -1), (33, -1), (34, -1), (35, -1), (37, -1)] h h46 := my_fr.tr gh34 (frh46.mo rfl)
        have Ln_h46 : Ln h46 := Ln_ag (my_ag.fr frh46 rfl) Ln_h34
        have Sp_h46 : Sp h46 wv := Sp_ag (my_ag.fr frh46 rfl) hwv Ln_h34 Sp_h34
        have St5_h46 : St5 h46 := St5_ag (my_ag.fr frh46 rfl) Ln_h34 St5_h34
        have Lo_h46 : Lo h h46 := Lo_ag (my_ag.fr frh46 rfl) Ln_h34 Lo_h34
        show wp l rho (d + 6) 60 53 [(2, 82), (0, v9), (0, v27), (9, 0)] [(0, 0)] h46 Q
        rw [show wc ((12 : Nat) : Int) = 99 from by decide] at xp49
        have tE59 : cs h34 = cs h := cs_eq (fun j => my_fr.at gh34 is_92 rfl) (my_fr.at gh34 is_82 rfl)
        rw [tE59] at xp49
        have ps60 : h34 82 7 = (sN (cs h) ((h 82 7))) := xc42
        rw [ps60] at xp49
        rw [ps60] at xp50
        refine w_ifne (t := 57) gz_60_53 rfl (fun u61 => by exfalso; omega) (fun u61 => ?_)
        have psR : h46 82 7 = h46 82 7 := (rfl : h46 82 7 = h46 82 7)
        have npsR : cs h46 = cs h := cs_eq (fun j => my_fr.at gh46 is_92 rfl) (my_fr.at gh46 is_82 rfl)
        have c62 := (rfl : h46 82 9 = h46 82 9)
        exact w_vret gz_60_56 gm_60 (k0 h46 (gh46) (by omega) (by omega) (by first | exact Lo_h46 | (rw [← w20]; exact std) | (unfold joinR; first | exact (by rcases xw with q | q | q; exact Or.inl ⟨q.1, by omega⟩; exact Or.inr (Or.inl ⟨q.1, q.2.1, by omega⟩); exact Or.inr (Or.inr ⟨q.1, q.2.1, Or.inl ⟨q.2.2.1, by omega⟩⟩)) | exact Or.inr (Or.inr ⟨by omega, by omega, Or.inr (Or.inr ⟨by omega, by omega, Or.inr ⟨by omega, Or.inr (Or.inr ⟨by omega, by omega, Or.inr ⟨by omega, by omega, by omega⟩⟩)⟩⟩)⟩) | exact Or.inr (Or.inr ⟨by omega, by omega, Or.inr (Or.inr ⟨by omega, by omega, Or.inr ⟨by omega, Or.inr (Or.inr ⟨by omega, by omega, Or.inl ⟨by omega, by omega⟩⟩)⟩⟩)⟩) | exact Or.inr (Or.inr ⟨by omega, by omega, Or.inr (Or.inr ⟨by omega, by omega, Or.inr ⟨by omega, or_assoc.mp (Or.inl (by omega))⟩⟩)⟩) | exact Or.inr (Or.inr ⟨by omega, by omega, Or.inr (Or.inr ⟨by omega, by omega, Or.inl ⟨by omega, by omega⟩⟩)⟩) | exact Or.inr (Or.inr ⟨by omega, by omega, Or.inr (Or.inl ⟨by omega, by omega, by omega⟩)⟩) | exact Or.inr (Or.inr ⟨by omega, by omega, Or.inl ⟨by omega, by omega⟩⟩) | exact or_assoc.mp (Or.inl (by omega))) | omega) (by first | exact Lo_h46 | (rw [← w20]; exact std) | (unfold joinR; first | exact (by rcases xw with q | q | q; exact Or.inl ⟨q.1, by omega⟩; exact Or.inr (Or.inl ⟨q.1, q.2.1, by omega⟩); exact Or.inr (Or.inr ⟨q.1, q.2.1, Or.inl ⟨q.2.2.1, by omega⟩⟩)) | exact Or.inr (Or.inr ⟨by omega, by omega, Or.inr (Or.inr ⟨by omega, by omega, Or.inr ⟨by omega, Or.inr (Or.inr ⟨by omega, by omega, Or.inr ⟨by omega, by omega, by omega⟩⟩)⟩⟩)⟩) | exact Or.inr (Or.inr ⟨by omega, by omega, Or.inr (Or.inr ⟨by omega, by omega, Or.inr ⟨by omega, Or.inr (Or.inr ⟨by omega, by omega, Or.inl ⟨by omega, by omega⟩⟩)⟩⟩)⟩) | exact Or.inr (Or.inr ⟨by omega, by omega, Or.inr (Or.inr ⟨by omega, by omega, Or.inr ⟨by omega, or_assoc.mp (Or.inl (by omega))⟩⟩)⟩) | exact Or.inr (Or.inr ⟨by omega, by omega, Or.inr (Or.inr ⟨by omega, by omega, Or.inl ⟨by omega, by omega⟩⟩)⟩) | exact Or.inr (Or.inr ⟨by omega, by omega, Or.inr (Or.inl ⟨by omega, by omega, by omega⟩)⟩) | exact Or.inr (Or.inr ⟨by omega, by omega, Or.inl ⟨by omega, by omega⟩⟩) | exact or_assoc.mp (Or.inl (by omega))) | omega) Ln_h46 Sp_h46 Al_h46t51 Cu_h46t52)
      ·
        have gh53 : my_fr [(4, 4), (4, 5), (4, 6), (4, 8), (4, 9), (5, 5), (5, 6), (5, 7), (5, 8), (5, 9), (32, -1), (33, -1), (34, -1), (35, -1), (37, -1)] h h53 := my_fr.tr gh34 (frh53.mo rfl)
        have Ln_h53 : Ln h53 := Ln_ag (my_ag.fr frh53 rfl) Ln_h34
        have Sp_h53 : Sp h53 wv := Sp_ag (my_ag.fr frh53 rfl) hwv Ln_h34 Sp_h34
        have St5_h53 : St5 h53 := St5_ag (my_ag.fr frh53 rfl) Ln_h34 St5_h34
        have Lo_h53 : Lo h h53 := Lo_ag (my_ag.fr frh53 rfl) Ln_h34 Lo_h34
        show wp l rho (d + 6) 60 53 [(2, 82), (0, v9), (0, v27), (9, 0)] [(0, 1)] h53 Q
        have tE63 : cs h34 = cs h := cs_eq (fun j => my_fr.at gh34 is_92 rfl) (my_fr.at gh34 is_82 rfl)
        rw [tE63] at xp55
        have ps64 : h34 82 7 = (sN (cs h) ((h 82 7))) := xc42
        rw [ps64] at xp55
        rw [show wc ((12 : Nat) : Int) = 99 from by decide] at xp56
        rw [tE63] at xp56
        rw [ps64] at xp56
        have ck65 := Cu_s Cu_h53t58
        rw [show cs h53 = cs h from cs_eq (fun j => my_fr.at gh53 is_92 rfl) (my_fr.at gh53 is_82 rfl)] at ck65
        rw [show h53 82 7 = (sN (cs h) (((sN (cs h) ((h 82 7)))))) from xp55] at ck65
        refine w_ifne (t := 57) gz_60_53 rfl (fun u66 => ?_) (fun u66 => by exfalso; omega)
        refine w_aload_n gz_60_57 rfl ?_
        refine w_aload_n gz_60_58 rfl ?_
        refine v_getR (j := 2) gz_60_59 rfl is_82 rd_5 rfl (fun v67 ev67 tv67 => ?_)
        have zv67 : v29 = v67 := (ev67.trans ((my_fr.at frh53 is_82 rfl).trans ((my_fr.at frh34 is_82 rfl).trans ev29.symm))).symm
        subst zv67
        have ce68 : h53 82 2 = v29 := ((my_fr.at frh53 is_82 rfl).trans ((my_fr.at frh34 is_82 rfl).trans ev29.symm))
        have ce69 : h53 v29 4 = h v29 4 := ((my_fr.at frh53 tv29 rfl).trans ((my_fr.at frh34 tv29 rfl).trans ((my_fr.at frh8 tv29 rfl).trans (rfl : h v29 4 = h v29 4))))
        have sE65 : v29 = h 82 2 := by first | assumption | omega
        refine v_getI (j := 4) gz_60_62 rfl tv29 rd_4 rfl (fun v70 ev70 pv70 qv70 => ?_)
        have zv70 := ev70.trans ((my_fr.at frh53 tv29 rfl).trans ((my_fr.at frh34 tv29 rfl).trans ev32.symm))
        have c65 : v70 = h (h 82 2) 4 := by rw [← sE65]; omega
        refine w_inv (k := 1) (as := [(0, v70)]) (r := []) (x := 82) (ls0 := [(2, 82), (0, v70), (9, 0)]) gz_60_65 gm_51 rfl is_82 rd_5 rfl rfl rfl rfl rfl (c_Reader_takeNumber9_f0 (d := (d + 3)) (x1 := v70) (by omega) (by omega) (w54.trans (by omega)) Al_h53t57 Cu_h53t58 (fun h71 frh71 w72 w73 xp74 Al_h71t75 Cu_h71t76 => ?_) (fun h77 v78 frh77 w79 w80 w81 w82 w83 xp84 xp85 xp86 Al_h77t87 Cu_h77t88 => ?_))
        ·
          have gh71 : my_fr [(4, 4), (4, 5), (4, 6), (4, 8), (4, 9), (5, 5), (5, 6), (5, 7), (5, 8), (5, 9), (32, -1), (33, -1), (34, -1), (35, -1), (37, -1)] h h71 := my_fr.tr gh53 (frh71.mo rfl)
          have Ln_h71 : Ln h71 := Ln_ag (my_ag.fr frh71 rfl) Ln_h53
          have Sp_h71 : Sp h71 wv := Sp_ag (my_ag.fr frh71 rfl) hwv Ln_h53 Sp_h53
          have St5_h71 : St5 h71 := St5_ag (my_ag.fr frh71 rfl) Ln_h53 St5_h53
          have Lo_h71 : Lo h h71 := Lo_ag (my_ag.fr frh71 rfl) Ln_h53 Lo_h53
          show wp l rho (d + 6) 60 68 [(2, 82), (0, v9), (0, v27), (9, 0)] [(0, (-1))] h71 Q
          have tE89 : cs h53 = cs h := cs_eq (fun j => my_fr.at gh53 is_92 rfl) (my_fr.at gh53 is_82 rfl)
          rw [tE89] at xp74
          have ps90 : h53 82 7 = (sN (cs h) (((sN (cs h) ((h 82 7)))))) := xp55
          rw [ps90] at xp74
          refine w_istore_n (ls' := [(2, 82), (0, v9), (0, v27), (0, (-1))]) gz_60_68 gm_60 rfl rfl rfl ?_
          refine w_aload_n gz_60_69 rfl ?_
          refine v_getI (j := 9) gz_60_70 rfl is_82 rd_5 rfl (fun v91 ev91 pv91 qv91 => ?_)
          have zv91 := ev91.trans (rfl : h71 82 9 = h71 82 9)
          refine w_ifne (t := 93) gz_60_73 rfl (fun u92 => ?_) (fun u92 => by exfalso; omega)
          have psR : h71 82 7 = h71 82 7 := (rfl : h71 82 7 = h71 82 7)
          have npsR : cs h71 = cs h := cs_eq (fun j => my_fr.at gh71 is_92 rfl) (my_fr.at gh71 is_82 rfl)
          have c93 := ev91.symm
          exact w_vret gz_60_93 gm_60 (k0 h71 (gh71) (by omega) (by omega) (by first | exact Lo_h71 | (rw [← w20]; exact std) | (unfold joinR; first | exact (by rcases xw with q | q | q; exact Or.inl ⟨q.1, by omega⟩; exact Or.inr (Or.inl ⟨q.1, q.2.1, by omega⟩); exact Or.inr (Or.inr ⟨q.1, q.2.1, Or.inl ⟨q.2.2.1, by omega⟩⟩)) | exact Or.inr (Or.inr ⟨by omega, by omega, Or.inr (Or.inr ⟨by omega, by omega, Or.inr ⟨by omega, Or.inr (Or.inr ⟨by omega, by omega, Or.inr ⟨by omega, by omega, by omega⟩⟩)⟩⟩)⟩) | exact Or.inr (Or.inr ⟨by omega, by omega, Or.inr (Or.inr ⟨by omega, by omega, Or.inr ⟨by omega, Or.inr (Or.inr ⟨by omega, by omega, Or.inl ⟨by omega, by omega⟩⟩)⟩⟩)⟩) | exact Or.inr (Or.inr ⟨by omega, by omega, Or.inr (Or.inr ⟨by omega, by omega, Or.inr ⟨by omega, or_assoc.mp (Or.inl (by omega))⟩⟩)⟩) | exact Or.inr (Or.inr ⟨by omega, by omega, Or.inr (Or.inr ⟨by omega, by omega, Or.inl ⟨by omega, by omega⟩⟩)⟩) | exact Or.inr (Or.inr ⟨by omega, by omega, Or.inr (Or.inl ⟨by omega, by omega, by omega⟩)⟩) | exact Or.inr (Or.inr ⟨by omega, by omega, Or.inl ⟨by omega, by omega⟩⟩) | exact or_assoc.mp (Or.inl (by omega))) | omega) (by first | exact Lo_h71 | (rw [← w20]; exact std) | (unfold joinR; first | exact (by rcases xw with q | q | q; exact Or.inl ⟨q.1, by omega⟩; exact Or.inr (Or.inl ⟨q.1, q.2.1, by omega⟩); exact Or.inr (Or.inr ⟨q.1, q.2.1, Or.inl ⟨q.2.2.1, by omega⟩⟩)) | exact Or.inr (Or.inr ⟨by omega, by omega, Or.inr (Or.inr ⟨by omega, by omega, Or.inr ⟨by omega, Or.inr (Or.inr ⟨by omega, by omega, Or.inr ⟨by omega, by omega, by omega⟩⟩)⟩⟩)⟩) | exact Or.inr (Or.inr ⟨by omega, by omega, Or.inr (Or.inr ⟨by omega, by omega, Or.inr ⟨by omega, Or.inr (Or.inr ⟨by omega, by omega, Or.inl ⟨by omega, by omega⟩⟩)⟩⟩)⟩) | exact Or.inr (Or.inr ⟨by omega, by omega, Or.inr (Or.inr ⟨by omega, by omega, Or.inr ⟨by omega, or_assoc.mp (Or.inl (by omega))⟩⟩)⟩) | exact Or.inr (Or.inr ⟨by omega, by omega, Or.inr (Or.inr ⟨by omega, by omega, Or.inl ⟨by omega, by omega⟩⟩)⟩) | exact Or.inr (Or.inr ⟨by omega, by omega, Or.inr (Or.inl ⟨by omega, by omega, by omega⟩)⟩) | exact Or.inr (Or.inr ⟨by omega, by omega, Or.inl ⟨by omega, by omega⟩⟩) | exact or_assoc.mp (Or.inl (by omega))) | omega) Ln_h71 Sp_h71 Al_h71t75 Cu_h71t76)
        ·
          have gh77 : my_fr [(4, 4), (4, 5), (4, 6), (4, 8), (4, 9), (5, 5), (5, 6), (5, 7), (5, 8), (5, 9), (32, -1), (33, -1), (34, -1), (35, -1), (37, -1)] h h77 := my_fr.tr gh53 (frh77.mo rfl)
          have Ln_h77 : Ln h77 := Ln_ag (my_ag.fr frh77 rfl) Ln_h53
          have Sp_h77 : Sp h77 wv := Sp_ag (my_ag.fr frh77 rfl) hwv Ln_h53 Sp_h53
          have St5_h77 : St5 h77 := St5_ag (my_ag.fr frh77 rfl) Ln_h53 St5_h53
          have Lo_h77 : Lo h h77 := Lo_ag (my_ag.fr frh77 rfl) Ln_h53 Lo_h53
          show wp l rho (d + 6) 60 68 [(2, 82), (0, v9), (0, v27), (9, 0)] [(0, v78)] h77 Q
          have tE94 : cs h53 = cs h := cs_eq (fun j => my_fr.at gh53 is_92 rfl) (my_fr.at gh53 is_82 rfl)
          rw [tE94] at xp84
          have ps95 : h53 82 7 = (sN (cs h) (((sN (cs h) ((h 82 7)))))) := xp55
          rw [ps95] at xp84
          rw [tE94] at xp85
          rw [ps95] at xp85
          rw [tE94] at xp86
          rw [ps95] at xp86
          have ck96 := Cu_s Cu_h77t88
          rw [show cs h77 = cs h from cs_eq (fun j => my_fr.at gh77 is_92 rfl) (my_fr.at gh77 is_82 rfl)] at ck96
          rw [show h77 82 7 = (sN (cs h) (((sN (cs h) (((sN (cs h) ((h 82 7))))))))) from xp84] at ck96
          refine w_istore_n (ls' := [(2, 82), (0, v9), (0, v27), (0, v78)]) gz_60_68 gm_60 rfl rfl rfl ?_
          refine w_aload_n gz_60_69 rfl ?_
          refine v_getI (j := 9) gz_60_70 rfl is_82 rd_5 rfl (fun v97 ev97 pv97 qv97 => ?_)
          have zv97 := ev97.trans w83
          refine w_ifne (t := 93) gz_60_73 rfl (fun u98 => by exfalso; omega) (fun u98 => ?_)
          refine w_aload_n gz_60_76 rfl ?_
          refine w_inv (k := 0) (as := []) (r := []) (x := 82) (ls0 := [(2, 82)]) gz_60_77 gm_47 rfl is_82 rd_5 rfl rfl rfl rfl rfl (c_Reader_endsHere9_f0 (d := (d + 3))  (ev97.symm.trans (by omega)) Al_h77t87 Cu_h77t88 (fun h99 frh99 w100 w101 xp102 xp103 Al_h99t104 Cu_h99t105 => ?_) (fun h106 frh106 w107 xp108 xp109 Al_h106t110 Cu_h106t111 => ?_))
          ·
            have gh99 : my_fr [(4, 4), (4, 5), (4, 6), (4, 8), (4, 9), (5, 5), (5, 6), (5, 7), (5, 8), (5, 9), (32, -1), (33, -1), (34, -1), (35, -1), (37, -1)] h h99 := my_fr.tr gh77 (frh99.mo rfl)
            have Ln_h99 : Ln h99 := Ln_ag (my_ag.fr frh99 rfl) Ln_h77
            have Sp_h99 : Sp h99 wv := Sp_ag (my_ag.fr frh99 rfl) hwv Ln_h77 Sp_h77
            have St5_h99 : St5 h99 := St5_ag (my_ag.fr frh99 rfl) Ln_h77 St5_h77
            have Lo_h99 : Lo h h99 := Lo_ag (my_ag.fr frh99 rfl) Ln_h77 Lo_h77
            show wp l rho (d + 6) 60 80 [(2, 82), (0, v9), (0, v27), (0, v78)] [(0, 0)] h99 Q
            have tE112 : cs h77 = cs h := cs_eq (fun j => my_fr.at gh77 is_92 rfl) (my_fr.at gh77 is_82 rfl)
            rw [tE112] at xp102
            have ps113 : h77 82 7 = (sN (cs h) (((sN (cs h) (((sN (cs h) ((h 82 7))))))))) := xp84
            rw [ps113] at xp102
            rw [ps113] at xp103
            refine w_ifeq (t := 93) gz_60_80 rfl (fun u114 => ?_) (fun u114 => by exfalso; omega)
            have psR : h99 82 7 = h99 82 7 := (rfl : h99 82 7 = h99 82 7)
            have npsR : cs h99 = cs h := cs_eq (fun j => my_fr.at gh99 is_92 rfl) (my_fr.at gh99 is_82 rfl)
            have c115 := (rfl : h99 82 9 = h99 82 9)
            exact w_vret gz_60_93 gm_60 (k0 h99 (gh99) (by omega) (by omega) (by first | exact Lo_h99 | (rw [← w20]; exact std) | (unfold joinR; first | exact (by rcases xw with q | q | q; exact Or.inl ⟨q.1, by omega⟩; exact Or.inr (Or.inl ⟨q.1, q.2.1, by omega⟩); exact Or.inr (Or.inr ⟨q.1, q.2.1, Or.inl ⟨q.2.2.1, by omega⟩⟩)) | exact Or.inr (Or.inr ⟨by omega, by omega, Or.inr (Or.inr ⟨by omega, by omega, Or.inr ⟨by omega, Or.inr (Or.inr ⟨by omega, by omega, Or.inr ⟨by omega, by omega, by omega⟩⟩)⟩⟩)⟩) | exact Or.inr (Or.inr ⟨by omega, by omega, Or.inr (Or.inr ⟨by omega, by omega, Or.inr ⟨by omega, Or.inr (Or.inr ⟨by omega, by omega, Or.inl ⟨by omega, by omega⟩⟩)⟩⟩)⟩) | exact Or.inr (Or.inr ⟨by omega, by omega, Or.inr (Or.inr ⟨by omega, by omega, Or.inr ⟨by omega, or_assoc.mp (Or.inl (by omega))⟩⟩)⟩) | exact Or.inr (Or.inr ⟨by omega, by omega, Or.inr (Or.inr ⟨by omega, by omega, Or.inl ⟨by omega, by omega⟩⟩)⟩) | exact Or.inr (Or.inr ⟨by omega, by omega, Or.inr (Or.inl ⟨by omega, by omega, by omega⟩)⟩) | exact Or.inr (Or.inr ⟨by omega, by omega, Or.inl ⟨by omega, by omega⟩⟩) | exact or_assoc.mp (Or.inl (by omega))) | omega) (by first | exact Lo_h99 | (rw [← w20]; exact std) | (unfold joinR; first | exact (by rcases xw with q | q | q; exact Or.inl ⟨q.1, by omega⟩; exact Or.inr (Or.inl ⟨q.1, q.2.1, by omega⟩); exact Or.inr (Or.inr ⟨q.1, q.2.1, Or.inl ⟨q.2.2.1, by omega⟩⟩)) | exact Or.inr (Or.inr ⟨by omega, by omega, Or.inr (Or.inr ⟨by omega, by omega, Or.inr ⟨by omega, Or.inr (Or.inr ⟨by omega, by omega, Or.inr ⟨by omega, by omega, by omega⟩⟩)⟩⟩)⟩) | exact Or.inr (Or.inr ⟨by omega, by omega, Or.inr (Or.inr ⟨by omega, by omega, Or.inr ⟨by omega, Or.inr (Or.inr ⟨by omega, by omega, Or.inl ⟨by omega, by omega⟩⟩)⟩⟩)⟩) | exact Or.inr (Or.inr ⟨by omega, by omega, Or.inr (Or.inr ⟨by omega, by omega, Or.inr ⟨by omega, or_assoc.mp (Or.inl (by omega))⟩⟩)⟩) | exact Or.inr (Or.inr ⟨by omega, by omega, Or.inr (Or.inr ⟨by omega, by omega, Or.inl ⟨by omega, by omega⟩⟩)⟩) | exact Or.inr (Or.inr ⟨by omega, by omega, Or.inr (Or.inl ⟨by omega, by omega, by omega⟩)⟩) | exact Or.inr (Or.inr ⟨by omega, by omega, Or.inl ⟨by omega, by omega⟩⟩) | exact or_assoc.mp (Or.inl (by omega))) | omega) Ln_h99 Sp_h99 Al_h99t104 Cu_h99t105)
          ·
            have gh106 : my_fr [(4, 4), (4, 5), (4, 6), (4, 8), (4, 9), (5, 5), (5, 6), (5, 7), (5, 8), (5, 9), (32, -1), (33, -1), (34, -1), (35, -1), (37, -1)] h h106 := my_fr.tr gh77 (frh106.mo rfl)
            have Ln_h106 : Ln h106 := Ln_ag (my_ag.fr frh106 rfl) Ln_h77
            have Sp_h106 : Sp h106 wv := Sp_ag (my_ag.fr frh106 rfl) hwv Ln_h77 Sp_h77
            have St5_h106 : St5 h106 := St5_ag (my_ag.fr frh106 rfl) Ln_h77 St5_h77
            have Lo_h106 : Lo h h106 := Lo_ag (my_ag.fr frh106 rfl) Ln_h77 Lo_h77
            show wp l rho (d + 6) 60 80 [(2, 82), (0, v9), (0, v27), (0, v78)] [(0, 1)] h106 Q
            have tE116 : cs h77 = cs h := cs_eq (fun j => my_fr.at gh77 is_92 rfl) (my_fr.at gh77 is_82 rfl)
            rw [tE116] at xp108
            have ps117 : h77 82 7 = (sN (cs h) (((sN (cs h) (((sN (cs h) ((h 82 7))))))))) := xp84
            rw [ps117] at xp108
            rw [tE116] at xp109
            rw [ps117] at xp109
            have ck118 := Cu_s Cu_h106t111
            rw [show cs h106 = cs h from cs_eq (fun j => my_fr.at gh106 is_92 rfl) (my_fr.at gh106 is_82 rfl)] at ck118
            rw [show h106 82 7 = (sN (cs h) (((sN (cs h) (((sN (cs h) (((sN (cs h) ((h 82 7)))))))))))) from xp108] at ck118
            refine w_ifeq (t := 93) gz_60_80 rfl (fun u119 => by exfalso; omega) (fun u119 => ?_)
            refine w_aload_n gz_60_83 rfl ?_
            refine v_getR (j := 2) gz_60_84 rfl is_82 rd_5 rfl (fun v120 ev120 tv120 => ?_)
            have zv120 : v29 = v120 := (ev120.trans ((my_fr.at frh106 is_82 rfl).trans ((my_fr.at frh77 is_82 rfl).trans ((my_fr.at frh53 is_82 rfl).trans ((my_fr.at frh34 is_82 rfl).trans ev29.symm))))).symm
            subst zv120
            refine w_iload_n gz_60_87 rfl ?_
            refine w_iload_n gz_60_88 rfl ?_
            refine w_iload_n gz_60_89 rfl ?_
            have ce121 : h106 82 2 = v29 := ((my_fr.at frh106 is_82 rfl).trans ((my_fr.at frh77 is_82 rfl).trans ((my_fr.at frh53 is_82 rfl).trans ((my_fr.at frh34 is_82 rfl).trans ev29.symm))))
            have s5a := St5_h106
            have s5e : v29 = h106 82 2 := by first | assumption | omega
            unfold St5 at s5a
            rw [← s5e] at s5a
            have ce122 : h106 v29 1 = h v29 1 := ((my_fr.at frh106 tv29 rfl).trans ((my_fr.at frh77 tv29 rfl).trans ((my_fr.at frh53 tv29 rfl).trans ((my_fr.at frh34 tv29 rfl).trans ((my_fr.at frh8 tv29 rfl).trans (rfl : h v29 1 = h v29 1))))))
            have ce123 : h106 v29 3 = h v29 3 := ((my_fr.at frh106 tv29 rfl).trans ((my_fr.at frh77 tv29 rfl).trans ((my_fr.at frh53 tv29 rfl).trans ((my_fr.at frh34 tv29 rfl).trans ((my_fr.at frh8 tv29 rfl).trans (rfl : h v29 3 = h v29 3))))))
            have ce124 : h106 v29 4 = h v29 4 := ((my_fr.at frh106 tv29 rfl).trans ((my_fr.at frh77 tv29 rfl).trans ((my_fr.at frh53 tv29 rfl).trans ((my_fr.at frh34 tv29 rfl).trans ((my_fr.at frh8 tv29 rfl).trans (rfl : h v29 4 = h v29 4))))))
            have ce125 : h106 v29 9 = h v29 9 := ((my_fr.at frh106 tv29 rfl).trans ((my_fr.at frh77 tv29 rfl).trans ((my_fr.at frh53 tv29 rfl).trans ((my_fr.at frh34 tv29 rfl).trans ((my_fr.at frh8 tv29 rfl).trans (rfl : h v29 9 = h v29 9))))))
            have sE : v29 = h 82 2 := by first | assumption | omega
            have eS1 : h106 v29 1 = h v29 1 := by omega
            have eS3 : h106 v29 3 = h v29 3 := by omega
            have eS4 : h106 v29 4 = h v29 4 := by omega
            have eS9 : h106 v29 9 = h v29 9 := by omega
            have hi126 : 1 ≤ v27 := by first | omega | (subst_vars; omega) | grind | omega
            have hi127 : v27 ≤ 4 := by first | omega | (subst_vars; omega) | grind | omega
            refine w_inv (k := 1) (as := [(0, v78), (0, v27), (0, v9)]) (r := []) (x := v29) (ls0 := [(2, v29), (0, v9), (0, v27), (0, v78), (9, 0)]) gz_60_90 gm_61 rfl tv29 rd_4 rfl rfl rfl rfl rfl (c_Lens_addJoin (d := (d + 4)) (x0 := v29) (x1 := v9) (x2 := v27) (x3 := v78) tv29 (by omega) (by omega) (by omega) (by omega) (by omega) (by omega) (by first | assumption | exact no_such_saying | exact Fp_told (by omega) (by omega) | omega | (subst_vars; omega) | omega) (by first | assumption | exact no_such_saying | exact Fp_told (by omega) (by omega) | omega | (subst_vars; omega) | omega) (fun h128 frh128 fxh128 w129 w130 xp131 => ?_))
            have gh128 : my_fr [(4, 4), (4, 5), (4, 6), (4, 8), (4, 9), (5, 5), (5, 6), (5, 7), (5, 8), (5, 9), (32, -1), (33, -1), (34, -1), (35, -1), (37, -1)] h h128 := my_fr.tr gh106 (frh128.mo rfl)
            have Ln_h128 : Ln h128 := Ln_fx fxh128 (by first | assumption | omega) Ln_h106
            have Lo_h128 : Lo h h128 := Lo_fx fxh128 (by first | assumption | omega) Ln_h106 Lo_h106
            have Al_h128 : Al h128 := Al_ag (my_ag.fr frh128 rfl) Al_h106t110
            have Cu_h128 : Cu h128 := Cu_ag (my_ag.fr frh128 rfl) Cu_h106t111
            show wp l rho (d + 6) 60 93 [(2, 82), (0, v9), (0, v27), (0, v78)] [] h128 Q
            have Sp_h128t132 : Sp h128 wv := Sp_add fxh128 (by first | assumption | omega) hwv Ln_h106 Sp_h106 xp131 (by have := St5_h106.1; omega) (by omega) (by omega)
            have ce133 : h128 82 2 = v29 := ((my_fr.at frh128 is_82 rfl).trans ((my_fr.at frh106 is_82 rfl).trans ((my_fr.at frh77 is_82 rfl).trans ((my_fr.at frh53 is_82 rfl).trans ((my_fr.at frh34 is_82 rfl).trans ev29.symm)))))
            have std := Std_add xp131 sE (by omega) eS3 eS4 eS9 eS1
            have psR : h128 82 7 = (sN (cs h) (((sN (cs h) (((sN (cs h) (((sN (cs h) ((h 82 7)))))))))))) := ((my_fr.at frh128 is_82 rfl).trans xp108)
            have npsR : cs h128 = cs h := cs_eq (fun j => my_fr.at gh128 is_92 rfl) (my_fr.at gh128 is_82 rfl)
            have c134 := ((my_fr.at frh128 is_82 rfl).trans w107)
            exact w_vret gz_60_93 gm_60 (k1 h128 (gh128) (by omega) (by first | exact Lo_h128 | (rw [← w20]; exact std) | (unfold joinR; first | exact (by rcases xw with q | q | q; exact Or.inl ⟨q.1, by omega⟩; exact Or.inr (Or.inl ⟨q.1, q.2.1, by omega⟩); exact Or.inr (Or.inr ⟨q.1, q.2.1, Or.inl ⟨q.2.2.1, by omega⟩⟩)) | exact Or.inr (Or.inr ⟨by omega, by omega, Or.inr (Or.inr ⟨by omega, by omega, Or.inr ⟨by omega, Or.inr (Or.inr ⟨by omega, by omega, Or.inr ⟨by omega, by omega, by omega⟩⟩)⟩⟩)⟩) | exact Or.inr (Or.inr ⟨by omega, by omega, Or.inr (Or.inr ⟨by omega, by omega, Or.inr ⟨by omega, Or.inr (Or.inr ⟨by omega, by omega, Or.inl ⟨by omega, by omega⟩⟩)⟩⟩)⟩) | exact Or.inr (Or.inr ⟨by omega, by omega, Or.inr (Or.inr ⟨by omega, by omega, Or.inr ⟨by omega, or_assoc.mp (Or.inl (by omega))⟩⟩)⟩) | exact Or.inr (Or.inr ⟨by omega, by omega, Or.inr (Or.inr ⟨by omega, by omega, Or.inl ⟨by omega, by omega⟩⟩)⟩) | exact Or.inr (Or.inr ⟨by omega, by omega, Or.inr (Or.inl ⟨by omega, by omega, by omega⟩)⟩) | exact Or.inr (Or.inr ⟨by omega, by omega, Or.inl ⟨by omega, by omega⟩⟩) | exact or_assoc.mp (Or.inl (by omega))) | omega) (by first | exact Lo_h128 | (rw [← w20]; exact std) | (unfold joinR; first | exact (by rcases xw with q | q | q; exact Or.inl ⟨q.1, by omega⟩; exact Or.inr (Or.inl ⟨q.1, q.2.1, by omega⟩); exact Or.inr (Or.inr ⟨q.1, q.2.1, Or.inl ⟨q.2.2.1, by omega⟩⟩)) | exact Or.inr (Or.inr ⟨by omega, by omega, Or.inr (Or.inr ⟨by omega, by omega, Or.inr ⟨by omega, Or.inr (Or.inr ⟨by omega, by omega, Or.inr ⟨by omega, by omega, by omega⟩⟩)⟩⟩)⟩) | exact Or.inr (Or.inr ⟨by omega, by omega, Or.inr (Or.inr ⟨by omega, by omega, Or.inr ⟨by omega, Or.inr (Or.inr ⟨by omega, by omega, Or.inl ⟨by omega, by omega⟩⟩)⟩⟩)⟩) | exact Or.inr (Or.inr ⟨by omega, by omega, Or.inr (Or.inr ⟨by omega, by omega, Or.inr ⟨by omega, or_assoc.mp (Or.inl (by omega))⟩⟩)⟩) | exact Or.inr (Or.inr ⟨by omega, by omega, Or.inr (Or.inr ⟨by omega, by omega, Or.inl ⟨by omega, by omega⟩⟩)⟩) | exact Or.inr (Or.inr ⟨by omega, by omega, Or.inr (Or.inl ⟨by omega, by omega, by omega⟩)⟩) | exact Or.inr (Or.inr ⟨by omega, by omega, Or.inl ⟨by omega, by omega⟩⟩) | exact or_assoc.mp (Or.inl (by omega))) | omega) (by first | exact Lo_h128 | (rw [← w20]; exact std) | (unfold joinR; first | exact (by rcases xw with q | q | q; exact Or.inl ⟨q.1, by omega⟩; exact Or.inr (Or.inl ⟨q.1, q.2.1, by omega⟩); exact Or.inr (Or.inr ⟨q.1, q.2.1, Or.inl ⟨q.2.2.1, by omega⟩⟩)) | exact Or.inr (Or.inr ⟨by omega, by omega, Or.inr (Or.inr ⟨by omega, by omega, Or.inr ⟨by omega, Or.inr (Or.inr ⟨by omega, by omega, Or.inr ⟨by omega, by omega, by omega⟩⟩)⟩⟩)⟩) | exact Or.inr (Or.inr ⟨by omega, by omega, Or.inr (Or.inr ⟨by omega, by omega, Or.inr ⟨by omega, Or.inr (Or.inr ⟨by omega, by omega, Or.inl ⟨by omega, by omega⟩⟩)⟩⟩)⟩) | exact Or.inr (Or.inr ⟨by omega, by omega, Or.inr (Or.inr ⟨by omega, by omega, Or.inr ⟨by omega, or_assoc.mp (Or.inl (by omega))⟩⟩)⟩) | exact Or.inr (Or.inr ⟨by omega, by omega, Or.inr (Or.inr ⟨by omega, by omega, Or.inl ⟨by omega, by omega⟩⟩)⟩) | exact Or.inr (Or.inr ⟨by omega, by omega, Or.inr (Or.inl ⟨by omega, by omega, by omega⟩)⟩) | exact Or.inr (Or.inr ⟨by omega, by omega, Or.inl ⟨by omega, by omega⟩⟩) | exact or_assoc.mp (Or.inl (by omega))) | omega) Ln_h128 Sp_h128t132 Al_h128 Cu_h128)
    ·
      have ce135 : h8 82 7 = h 82 7 := ((my_fr.at frh8 is_82 rfl).trans (rfl : h 82 7 = h 82 7))
      refine w_aload_n gz_60_37 rfl ?_
      refine w_iconst gz_60_38 (by decide) ?_
      refine w_inv (k := 0) (as := [(0, 5)]) (r := []) (x := 82) (ls0 := [(2, 82), (0, 5)]) gz_60_39 gm_42 rfl is_82 rd_5 rfl rfl rfl rfl rfl ?_
      refine w_aload_n gz_42_0 rfl ?_
      refine v_getI (j := 9) gz_42_1 rfl is_82 rd_5 rfl (fun v136 ev136 pv136 qv136 => ?_)
      have zv136 := ev136.trans w15
      refine w_ifne (t := 20) gz_42_4 rfl (fun u137 => by exfalso; omega) (fun u137 => ?_)
      refine w_aload_n gz_42_7 rfl ?_
      refine w_iload_n gz_42_8 rfl ?_
      refine w_bipush gz_42_9 (by decide) ?_
      refine w_aload_n gz_42_11 rfl ?_
      refine v_getI (j := 7) gz_42_12 rfl is_82 rd_5 rfl (fun v138 ev138 pv138 qv138 => ?_)
      refine w_imul gz_42_15 ⟨by omega, by omega⟩ ?_
      refine w_iadd gz_42_16 ⟨by omega, by omega⟩ ?_
      refine v_putI (j := 9) gz_42_17 rfl is_82 rd_5 rfl (by omega) (by omega) rfl (fun h139 fh139 => ?_)
      have gh139 : my_fr [(4, 4), (4, 5), (4, 6), (4, 8), (4, 9), (5, 5), (5, 6), (5, 7), (5, 8), (5, 9), (32, -1), (33, -1), (34, -1), (35, -1), (37, -1)] h h139 := my_fr.up gh8 is_82 fh139 rfl
      have Ln_h139 : Ln h139 := Ln_ag (my_ag.up fh139 is_82 rfl) Ln_h8
      have Sp_h139 : Sp h139 wv := Sp_ag (my_ag.up fh139 is_82 rfl) hwv Ln_h8 Sp_h8
      have St5_h139 : St5 h139 := St5_ag (my_ag.up fh139 is_82 rfl) Ln_h8 St5_h8
      have Al_h139 : Al h139 := Al_ag (my_ag.up fh139 is_82 rfl) Al_h8t20
      have Cu_h139 : Cu h139 := Cu_ag (my_ag.up fh139 is_82 rfl) Cu_h8t21
      have Lo_h139 : Lo h h139 := Lo_ag (my_ag.up fh139 is_82 rfl) Ln_h8 Lo_h8
      refine w_vret gz_42_20 gm_42 ?_
      show wp l rho (d + 6) 60 42 [(2, 82), (0, v9), (0, v27), (9, 0)] [] h139 Q
      have psR : h139 82 7 = h 82 7 := ((my_up_fld fh139 (by decide)).trans ((my_fr.at frh8 is_82 rfl).trans (rfl : h 82 7 = h 82 7)))
      have npsR : cs h139 = cs h := cs_eq (fun j => my_fr.at gh139 is_92 rfl) (my_fr.at gh139 is_82 rfl)
      have c140 := (my_up_self fh139)
      exact w_vret gz_60_42 gm_60 (k0 h139 (gh139) (by omega) (by omega) (by first | exact Lo_h139 | (rw [← w20]; exact std) | (unfold joinR; first | exact (by rcases xw with q | q | q; exact Or.inl ⟨q.1, by omega⟩; exact Or.inr (Or.inl ⟨q.1, q.2.1, by omega⟩); exact Or.inr (Or.inr ⟨q.1, q.2.1, Or.inl ⟨q.2.2.1, by omega⟩⟩)) | exact Or.inr (Or.inr ⟨by omega, by omega, Or.inr (Or.inr ⟨by omega, by omega, Or.inr ⟨by omega, Or.inr (Or.inr ⟨by omega, by omega, Or.inr ⟨by omega, by omega, by omega⟩⟩)⟩⟩)⟩) | exact Or.inr (Or.inr ⟨by omega, by omega, Or.inr (Or.inr ⟨by omega, by omega, Or.inr ⟨by omega, Or.inr (Or.inr ⟨by omega, by omega, Or.inl ⟨by omega, by omega⟩⟩)⟩⟩)⟩) | exact Or.inr (Or.inr ⟨by omega, by omega, Or.inr (Or.inr ⟨by omega, by omega, Or.inr ⟨by omega, or_assoc.mp (Or.inl (by omega))⟩⟩)⟩) | exact Or.inr (Or.inr ⟨by omega, by omega, Or.inr (Or.inr ⟨by omega, by omega, Or.inl ⟨by omega, by omega⟩⟩)⟩) | exact Or.inr (Or.inr ⟨by omega, by omega, Or.inr (Or.inl ⟨by omega, by omega, by omega⟩)⟩) | exact Or.inr (Or.inr ⟨by omega, by omega, Or.inl ⟨by omega, by omega⟩⟩) | exact or_assoc.mp (Or.inl (by omega))) | omega) (by first | exact Lo_h139 | (rw [← w20]; exact std) | (unfold joinR; first | exact (by rcases xw with q | q | q; exact Or.inl ⟨q.1, by omega⟩; exact Or.inr (Or.inl ⟨q.1, q.2.1, by omega⟩); exact Or.inr (Or.inr ⟨q.1, q.2.1, Or.inl ⟨q.2.2.1, by omega⟩⟩)) | exact Or.inr (Or.inr ⟨by omega, by omega, Or.inr (Or.inr ⟨by omega, by omega, Or.inr ⟨by omega, Or.inr (Or.inr ⟨by omega, by omega, Or.inr ⟨by omega, by omega, by omega⟩⟩)⟩⟩)⟩) | exact Or.inr (Or.inr ⟨by omega, by omega, Or.inr (Or.inr ⟨by omega, by omega, Or.inr ⟨by omega, Or.inr (Or.inr ⟨by omega, by omega, Or.inl ⟨by omega, by omega⟩⟩)⟩⟩)⟩) | exact Or.inr (Or.inr ⟨by omega, by omega, Or.inr (Or.inr ⟨by omega, by omega, Or.inr ⟨by omega, or_assoc.mp (Or.inl (by omega))⟩⟩)⟩) | exact Or.inr (Or.inr ⟨by omega, by omega, Or.inr (Or.inr ⟨by omega, by omega, Or.inl ⟨by omega, by omega⟩⟩)⟩) | exact Or.inr (Or.inr ⟨by omega, by omega, Or.inr (Or.inl ⟨by omega, by omega, by omega⟩)⟩) | exact Or.inr (Or.inr ⟨by omega, by omega, Or.inl ⟨by omega, by omega⟩⟩) | exact or_assoc.mp (Or.inl (by omega))) | omega) Ln_h139 Sp_h139 Al_h139 Cu_h139)
end MYNReader_readFew9_f0
