/-! contracts, printed by wip/gen/gy.py -/
section MYNReader_readFew9_f0
theorem c_Reader_readFew9_f0 {l : Launch} {rho : Nat → Int32} {d : Nat} {h : my_H} {Q : my_H → my_V → Prop} {wv : Int} (cf : h 82 9 = 0) (hwv : wv ≤ 5) (hwv0 : 0 ≤ wv) (n_Ln : Ln h) (n_Sp : Sp h wv) (n_St5 : St5 h) (n_Al : Al h) (n_Cu : Cu h) (k0 : ∀ (h' : my_H), my_fr [(4, 4), (4, 5), (4, 9), (5, 5), (5, 6), (5, 7), (5, 8), (5, 9), (32, -1), (33, -1), (34, -1), (35, -1), (36, -1), (37, -1), (39, -1)] h h' → 1 ≤ h' 82 9 → h' 82 9 ≤ 16004 → fewE (cs h) (h (h 82 2) 4) (h 82 7) (h' 82 9) (h' 82 7) 0 → Lo h h' → Ln h' → Sp h' wv → Al h' → Cu h' → Q h' (9, 0)) (k1 : ∀ (h' : my_H), my_fr [(4, 4), (4, 5), (4, 9), (5, 5), (5, 6), (5, 7), (5, 8), (5, 9), (32, -1), (33, -1), (34, -1), (35, -1), (36, -1), (37, -1), (39, -1)] h h' → h' 82 9 = 0 → fewE (cs h) (h (h 82 2) 4) (h 82 7) (h' 82 9) (h' 82 7) (h' (h 82 2) 4) → Std h h' (h' (h 82 2) 4) (h (h 82 2) 9 + 1) → Lo h h' → Ln h' → Sp h' wv → Al h' → Cu h' → Q h' (9, 0)) : wp l rho (d + 2) 56 0 [(2, 82), (9, 0), (9, 0)] [] h Q := by
  have ck1 := Cu_s n_Cu
  have cv2 := Cu_v n_Cu
  have J2_0 : ∀ (n : Nat) (p2_0 : Int) (h2_0 : my_H), my_fr [(4, 4), (4, 5), (4, 9), (5, 5), (5, 6), (5, 7), (5, 8), (5, 9), (32, -1), (33, -1), (34, -1), (35, -1), (36, -1), (37, -1), (39, -1)] h h2_0 → 0 ≤ p2_0 → p2_0 ≤ 8 → h2_0 82 9 = 0 → Ln h2_0 → Sp h2_0 wv → St5 h2_0 → Al h2_0 → Cu h2_0 → Pk h2_0 p2_0 → Lo h h2_0 → fwI h h2_0 p2_0 → h2_0 82 2 = h 82 2 → h2_0 (h 82 2) 1 = h (h 82 2) 1 → h2_0 (h 82 2) 3 = h (h 82 2) 3 → h2_0 (h 82 2) 4 = h (h 82 2) 4 → h2_0 (h 82 2) 9 = h (h 82 2) 9 → 9 - p2_0 ≤ (n : Int) → wp l rho (d + 2) 56 2 [(2, 82), (0, p2_0), (9, 0)] [] h2_0 Q := by
    intro n
    induction n with
    | zero => intro p2_0 h2_0 gh_2_0 q0_2_0 q1_2_0 c82_9_2_0 n_Ln_2_0 n_Sp_2_0 n_St5_2_0 n_Al_2_0 n_Cu_2_0 n_Pk_2_0 n_Lo_2_0 fw_2_0 e2_2_0 f1_2_0 f3_2_0 f4_2_0 f9_2_0 hm_2_0; exfalso; omega
    | succ n ih_2_0 =>
      intro p2_0 h2_0 gh_2_0 q0_2_0 q1_2_0 c82_9_2_0 n_Ln_2_0 n_Sp_2_0 n_St5_2_0 n_Al_2_0 n_Cu_2_0 n_Pk_2_0 n_Lo_2_0 fw_2_0 e2_2_0 f1_2_0 f3_2_0 f4_2_0 f9_2_0 hm_2_0
      have ck3 := Cu_s n_Cu_2_0
      rw [show cs h2_0 = cs h from cs_eq (fun j => my_fr.at gh_2_0 is_92 rfl) (my_fr.at gh_2_0 is_82 rfl)] at ck3
      have cv4 := Cu_v n_Cu_2_0
      rw [show cs h2_0 = cs h from cs_eq (fun j => my_fr.at gh_2_0 is_92 rfl) (my_fr.at gh_2_0 is_82 rfl)] at cv4
      refine w_aload_n gz_56_2 rfl ?_
      refine w_aload_n gz_56_3 rfl ?_
      refine v_getR (j := 2) gz_56_4 rfl is_82 rd_5 rfl (fun v5 ev5 tv5 => ?_)
      have ce6 : h2_0 82 2 = v5 := ev5.symm
      have sE7 : v5 = h 82 2 := by first | assumption | omega
      refine v_getI (j := 4) gz_56_7 rfl tv5 rd_4 rfl (fun v7 ev7 pv7 qv7 => ?_)
      have c10 : v7 = h (h 82 2) 4 := by rw [← f4_2_0, ← sE7]; omega
      refine w_inv (k := 0) (as := [(0, v7)]) (r := []) (x := 82) (ls0 := [(2, 82), (0, v7)]) gz_56_10 gm_44 rfl is_82 rd_5 rfl rfl rfl rfl rfl ?_
      refine w_aload_n gz_44_0 rfl ?_
      refine v_getI (j := 6) gz_44_1 rfl is_82 rd_5 rfl (fun v8 ev8 pv8 qv8 => ?_)
      refine w_iconst gz_44_4 (by decide) ?_
      refine w_iceq (t := 15) gz_44_5 rfl (fun u9 => ?_) (fun u9 => ?_)
      ·
        refine w_aload_n gz_44_15 rfl ?_
        refine v_getI (j := 8) gz_44_16 rfl is_82 rd_5 rfl (fun v10 ev10 pv10 qv10 => ?_)
        refine w_iload_n gz_44_19 rfl ?_
        refine w_iclt (t := 30) gz_44_20 rfl (fun u11 => ?_) (fun u11 => ?_)
        ·
          refine w_aload_n gz_44_30 rfl ?_
          refine v_getI (j := 9) gz_44_31 rfl is_82 rd_5 rfl (fun v12 ev12 pv12 qv12 => ?_)
          have zv12 := ev12.trans c82_9_2_0
          refine w_ifne (t := 44) gz_44_34 rfl (fun u13 => by exfalso; omega) (fun u13 => ?_)
          refine w_aload_n gz_44_37 rfl ?_
          refine v_getI (j := 8) gz_44_38 rfl is_82 rd_5 rfl (fun v14 ev14 pv14 qv14 => ?_)
          have zv14 := ev14.trans ev10.symm
          refine w_goto (t := 45) gz_44_41 rfl ?_
          refine w_iret gz_44_45 gm_44 ?_
          show wp l rho (d + 2) 56 13 [(2, 82), (0, p2_0), (9, 0)] [(0, v14)] h2_0 Q
          refine w_istore_n (ls' := [(2, 82), (0, p2_0), (0, v14)]) gz_56_13 gm_56 rfl rfl rfl ?_
          refine w_iload_n gz_56_14 rfl ?_
          refine w_iconst gz_56_15 (by decide) ?_
          refine w_icne (t := 20) gz_56_16 rfl (fun u15 => ?_) (fun u15 => by exfalso; omega)
          refine w_aload_n gz_56_20 rfl ?_
          refine v_getR (j := 2) gz_56_21 rfl is_82 rd_5 rfl (fun v16 ev16 tv16 => ?_)
          have zv16 : v5 = v16 := (ev16.trans ev5.symm).symm
          subst zv16
          refine w_iload_n gz_56_24 rfl ?_
          refine w_iload_n gz_56_25 rfl ?_
          have ce17 : h2_0 82 2 = v5 := ev5.symm
          have s5a := n_St5_2_0
          have s5e : v5 = h2_0 82 2 := by first | assumption | omega
          unfold St5 at s5a
          rw [← s5e] at s5a
          refine w_inv (k := 1) (as := [(0, p2_0), (0, v14)]) (r := []) (x := v5) (ls0 := [(2, v5), (0, v14), (0, p2_0), (9, 0)]) gz_56_26 gm_57 rfl tv5 rd_4 rfl rfl rfl rfl rfl (c_Lens_isPicked9 (d := (d + 1)) (x0 := v5) (x1 := v14) (x2 := p2_0) tv5 (by omega) (by omega) (by omega) (by omega) (by first | assumption | exact no_such_saying | exact Fp_told (by omega) (by omega) | omega | (subst_vars; omega) | omega) (fun xp18 => ?_) (fun w19 xp20 => ?_))
          ·
            show wp l rho (d + 2) 56 29 [(2, 82), (0, p2_0), (0, v14)] [(0, 0)] h2_0 Q
            have np := xp18
            have npk : ¬ PkS h2_0 p2_0 v14 := fun ⟨i, a, b, d⟩ => xp18 i a b (by rw [s5e]; exact d)
            refine w_ifeq (t := 38) gz_56_29 rfl (fun u21 => ?_) (fun u21 => by exfalso; omega)
            refine w_aload_n gz_56_38 rfl ?_
            refine v_getR (j := 2) gz_56_39 rfl is_82 rd_5 rfl (fun v22 ev22 tv22 => ?_)
            have zv22 : v5 = v22 := (ev22.trans ev5.symm).symm
            subst zv22
            refine w_iload_n gz_56_42 rfl ?_
            refine w_iinc (ls' := [(2, 82), (0, (p2_0 + 1)), (0, v14)]) gz_56_43 rfl gm_56 rfl rfl rfl ⟨by omega, by omega⟩ ?_
            refine w_iload_n gz_56_46 rfl ?_
            have ce23 : h2_0 82 2 = v5 := ev5.symm
            have sv : v5 = h2_0 82 2 := by omega
            have pk7 := n_Pk_2_0
            refine v_knowA (x := (v5 + 5)) (ix_4_5 tv5) rd_36 (fun kA => ?_)
            have hp7 : p2_0 ≤ 7 := by
              rw [sv] at kA s5a
              have np2 := np
              rw [sv] at np2
              exact pick7 (f := fun i => h2_0 (h2_0 82 2 + 5) (h2_0 (h2_0 82 2) 9 * 8 + i)) (by omega) (fun i a b => kA _ (by omega) (by omega)) (fun i j a b c => pk7 i j a b c) (by omega) (by omega) (fun i a b => np2 i a b)
            have hi24 : 0 ≤ p2_0 := by omega
            have hi25 : p2_0 ≤ 7 := by omega
            refine w_inv (k := 0) (as := [(0, v14), (0, p2_0)]) (r := []) (x := v5) (ls0 := [(2, v5), (0, p2_0), (0, v14)]) gz_56_47 gm_58 rfl tv5 rd_4 rfl rfl rfl rfl rfl ?_
            refine w_aload_n gz_58_0 rfl ?_
            refine w_getX (v := (v5 + 5)) gz_58_1 tv5 rd_4 rfl (by decide) rfl ?_
            refine w_aload_n gz_58_4 rfl ?_
            refine v_getI (j := 9) gz_58_5 rfl tv5 rd_4 rfl (fun v27 ev27 pv27 qv27 => ?_)
            refine w_bipush gz_58_8 (by decide) ?_
            refine w_imul gz_58_10 ⟨by omega, by omega⟩ ?_
            refine w_iload_n gz_58_11 rfl ?_
            refine w_iadd gz_58_12 ⟨by omega, by omega⟩ ?_
            refine w_iload_n gz_58_13 rfl ?_
            have hi28 : 0 ≤ ((v27 * 8) + p2_0) := by omega
            have hi29 : ((v27 * 8) + p2_0) ≤ 47 := by omega
            refine w_iast gz_58_14 (ix_4_5 tv5) rd_36 (by omega) (by omega) (by omega) (by omega) (fun h30 fh30 => ?_)
            have gh30 : my_fr [(4, 4), (4, 5), (4, 9), (5, 5), (5, 6), (5, 7), (5, 8), (5, 9), (32, -1), (33, -1), (34, -1), (35, -1), (36, -1), (37, -1), (39, -1)] h h30 := my_fr.up gh_2_0 (ix_4_5 tv5) fh30 rfl
            have Ln_h30 : Ln h30 := Ln_ag (my_ag.up fh30 (ix_4_5 tv5) rfl) n_Ln_2_0
            have Sp_h30 : Sp h30 wv := Sp_ag (my_ag.up fh30 (ix_4_5 tv5) rfl) hwv n_Ln_2_0 n_Sp_2_0
            have St5_h30 : St5 h30 := St5_ag (my_ag.up fh30 (ix_4_5 tv5) rfl) n_Ln_2_0 n_St5_2_0
            have Al_h30 : Al h30 := Al_ag (my_ag.up fh30 (ix_4_5 tv5) rfl) n_Al_2_0
            have Cu_h30 : Cu h30 := Cu_ag (my_ag.up fh30 (ix_4_5 tv5) rfl) n_Cu_2_0
            have Lo_h30 : Lo h h30 := Lo_ag (my_ag.up fh30 (ix_4_5 tv5) rfl) n_Ln_2_0 n_Lo_2_0
            refine w_vret gz_58_15 gm_58 ?_
            show wp l rho (d + 2) 56 50 [(2, 82), (0, (p2_0 + 1)), (0, v14)] [] h30 Q
            have Pk_h30t31 : Pk h30 (p2_0 + 1) := Pk_add n_Ln_2_0 n_Pk_2_0 sv (by omega) fh30 np
            have pks : ∀ u : Int, PkS h30 (p2_0 + 1) u ↔ (PkS h2_0 p2_0 u ∨ u = v14) := PkS_up n_Ln_2_0 sv (by omega) (by omega) fh30
            refine w_aload_n gz_56_50 rfl ?_
            refine w_inv (k := 2) (as := []) (r := []) (x := 82) (ls0 := [(2, 82), (9, 0), (9, 0)]) gz_56_51 gm_37 rfl is_82 rd_5 rfl rfl rfl rfl rfl (c_Reader_nextToken9_f0 (d := d)  (((my_up_role fh30 is_82 (ix_4_5 tv5) rfl).trans ev12.symm).trans (by omega)) Al_h30 (fun h32 frh32 w33 w34 w35 xp36 xp37 Al_h32t38 Cu_h32t39 => ?_))
            have gh32 : my_fr [(4, 4), (4, 5), (4, 9), (5, 5), (5, 6), (5, 7), (5, 8), (5, 9), (32, -1), (33, -1), (34, -1), (35, -1), (36, -1), (37, -1), (39, -1)] h h32 := my_fr.tr gh30 (frh32.mo rfl)
            have Ln_h32 : Ln h32 := Ln_ag (my_ag.fr frh32 rfl) Ln_h30
            have Sp_h32 : Sp h32 wv := Sp_ag (my_ag.fr frh32 rfl) hwv Ln_h30 Sp_h30
            have St5_h32 : St5 h32 := St5_ag (my_ag.fr frh32 rfl) Ln_h30 St5_h30
            have Lo_h32 : Lo h h32 := Lo_ag (my_ag.fr frh32 rfl) Ln_h30 Lo_h30
            have Pk_h32 : Pk h32 (p2_0 + 1) := Pk_ag (my_ag.fr frh32 rfl) Ln_h30 Pk_h30t31
            show wp l rho (d + 2) 56 54 [(2, 82), (0, (p2_0 + 1)), (0, v14)] [] h32 Q
            have xc40 := xp36 Cu_h30
            have tE41 : cs h30 = cs h := cs_eq (fun j => my_fr.at gh30 is_92 rfl) (my_fr.at gh30 is_82 rfl)
            rw [tE41] at xc40
            have ps42 : h30 82 7 = h2_0 82 7 := ((my_up_role fh30 is_82 (ix_4_5 tv5) rfl).trans (rfl : h2_0 82 7 = h2_0 82 7))
            rw [ps42] at xc40
            have ck43 := Cu_s Cu_h32t39
            rw [show cs h32 = cs h from cs_eq (fun j => my_fr.at gh32 is_92 rfl) (my_fr.at gh32 is_82 rfl)] at ck43
            rw [show h32 82 7 = (sN (cs h) ((h2_0 82 7))) from xc40] at ck43
            have cv44 := Cu_v Cu_h32t39
            rw [show cs h32 = cs h from cs_eq (fun j => my_fr.at gh32 is_92 rfl) (my_fr.at gh32 is_82 rfl)] at cv44
            rw [show h32 82 7 = (sN (cs h) ((h2_0 82 7))) from xc40] at cv44
            have pk2 : ∀ u : Int, PkS h32 (p2_0 + 1) u ↔ PkS h30 (p2_0 + 1) u := fun u => PkS_ag (my_ag.fr frh32 rfl) Ln_h30 u
            refine w_aload_n gz_56_54 rfl ?_
            refine v_getI (j := 6) gz_56_55 rfl is_82 rd_5 rfl (fun v45 ev45 pv45 qv45 => ?_)
            have zv45 := ev45.trans (rfl : h32 82 6 = h32 82 6)
            refine w_iconst gz_56_58 (by decide) ?_
            refine w_iceq (t := 68) gz_56_59 rfl (fun u46 => ?_) (fun u46 => ?_)
            ·
              refine w_aload_n gz_56_68 rfl ?_
              refine w_inv (k := 2) (as := []) (r := []) (x := 82) (ls0 := [(2, 82), (9, 0), (9, 0)]) gz_56_69 gm_37 rfl is_82 rd_5 rfl rfl rfl rfl rfl (c_Reader_nextToken9_f0 (d := d)  (((my_fr.at frh32 is_82 rfl).trans ((my_up_role fh30 is_82 (ix_4_5 tv5) rfl).trans ev12.symm)).trans (by omega)) Al_h32t38 (fun h47 frh47 w48 w49 w50 xp51 xp52 Al_h47t53 Cu_h47t54 => ?_))
              have gh47 : my_fr [(4, 4), (4, 5), (4, 9), (5, 5), (5, 6), (5, 7), (5, 8), (5, 9), (32, -1), (33, -1), (34, -1), (35, -1), (36, -1), (37, -1), (39, -1)] h h47 := my_fr.tr gh32 (frh47.mo rfl)
              have Ln_h47 : Ln h47 := Ln_ag (my_ag.fr frh47 rfl) Ln_h32
              have Sp_h47 : Sp h47 wv := Sp_ag (my_ag.fr frh47 rfl) hwv Ln_h32 Sp_h32
              have St5_h47 : St5 h47 := St5_ag (my_ag.fr frh47 rfl) Ln_h32 St5_h32
              have Lo_h47 : Lo h h47 := Lo_ag (my_ag.fr frh47 rfl) Ln_h32 Lo_h32
              have Pk_h47 : Pk h47 (p2_0 + 1) := Pk_ag (my_ag.fr frh47 rfl) Ln_h32 Pk_h32
              show wp l rho (d + 2) 56 72 [(2, 82), (0, (p2_0 + 1)), (0, v14)] [] h47 Q
              have xc55 := xp51 Cu_h32t39
              have tE56 : cs h32 = cs h := cs_eq (fun j => my_fr.at gh32 is_92 rfl) (my_fr.at gh32 is_82 rfl)
              rw [tE56] at xc55
              have ps57 : h32 82 7 = (sN (cs h) ((h2_0 82 7))) := xc40
              rw [ps57] at xc55
              have ck58 := Cu_s Cu_h47t54
              rw [show cs h47 = cs h from cs_eq (fun j => my_fr.at gh47 is_92 rfl) (my_fr.at gh47 is_82 rfl)] at ck58
              rw [show h47 82 7 = (sN (cs h) (((sN (cs h) ((h2_0 82 7)))))) from xc55] at ck58
              have cv59 := Cu_v Cu_h47t54
              rw [show cs h47 = cs h from cs_eq (fun j => my_fr.at gh47 is_92 rfl) (my_fr.at gh47 is_82 rfl)] at cv59
              rw [show h47 82 7 = (sN (cs h) (((sN (cs h) ((h2_0 82 7)))))) from xc55] at cv59
              refine w_aload_n gz_56_72 rfl ?_
              refine v_getR (j := 2) gz_56_73 rfl is_82 rd_5 rfl (fun v60 ev60 tv60 => ?_)
              have zv60 : v5 = v60 := (ev60.trans ((my_fr.at frh47 is_82 rfl).trans ((my_fr.at frh32 is_82 rfl).trans ((my_up_role fh30 is_82 (ix_4_5 tv5) rfl).trans ev5.symm)))).symm
              subst zv60
              refine w_iload_n gz_56_76 rfl ?_
              have ce61 : h47 82 2 = v5 := ((my_fr.at frh47 is_82 rfl).trans ((my_fr.at frh32 is_82 rfl).trans ((my_up_role fh30 is_82 (ix_4_5 tv5) rfl).trans ev5.symm)))
              have s5a := St5_h47
              have s5e : v5 = h47 82 2 := by first | assumption | omega
              unfold St5 at s5a
              rw [← s5e] at s5a
              have ce62 : h47 82 2 = v5 := ((my_fr.at frh47 is_82 rfl).trans ((my_fr.at frh32 is_82 rfl).trans ((my_up_role fh30 is_82 (ix_4_5 tv5) rfl).trans ev5.symm)))
              have ce63 : h47 v5 1 = h2_0 v5 1 := ((my_fr.at frh47 tv5 rfl).trans ((my_fr.at frh32 tv5 rfl).trans ((my_up_role fh30 tv5 (ix_4_5 tv5) rfl).trans (rfl : h2_0 v5 1 = h2_0 v5 1))))
              have ce64 : h47 v5 3 = h2_0 v5 3 := ((my_fr.at frh47 tv5 rfl).trans ((my_fr.at frh32 tv5 rfl).trans ((my_up_role fh30 tv5 (ix_4_5 tv5) rfl).trans (rfl : h2_0 v5 3 = h2_0 v5 3))))
              have ce65 : h47 v5 4 = h2_0 v5 4 := ((my_fr.at frh47 tv5 rfl).trans ((my_fr.at frh32 tv5 rfl).trans ((my_up_role fh30 tv5 (ix_4_5 tv5) rfl).trans (rfl : h2_0 v5 4 = h2_0 v5 4))))
              have ce66 : h47 v5 9 = h2_0 v5 9 := ((my_fr.at frh47 tv5 rfl).trans ((my_fr.at frh32 tv5 rfl).trans ((my_up_role fh30 tv5 (ix_4_5 tv5) rfl).trans (rfl : h2_0 v5 9 = h2_0 v5 9))))
              have sE : v5 = h 82 2 := by omega
              have eS1 : h47 v5 1 = h v5 1 := by
                have a := f1_2_0
                rw [← sE] at a
                omega
              have eS3 : h47 v5 3 = h v5 3 := by
                have a := f3_2_0
                rw [← sE] at a
                omega
              have eS4 : h47 v5 4 = h v5 4 := by
                have a := f4_2_0
                rw [← sE] at a
                omega
              have eS9 : h47 v5 9 = h v5 9 := by
                have a := f9_2_0
                rw [← sE] at a
                omega
              have hi67 : 1 ≤ (p2_0 + 1) := by omega
              have hi68 : (p2_0 + 1) ≤ 8 := by omega
              refine w_inv (k := 1) (as := [(0, (p2_0 + 1))]) (r := []) (x := v5) (ls0 := [(2, v5), (0, (p2_0 + 1)), (9, 0)]) gz_56_77 gm_59 rfl tv5 rd_4 rfl rfl rfl rfl rfl (c_Lens_addFew (d := d) (x0 := v5) (x1 := (p2_0 + 1)) tv5 (by omega) (by omega) (by first | assumption | exact no_such_saying | exact Fp_told (by omega) (by omega) | omega | (subst_vars; omega) | omega) (fun h69 frh69 fxh69 w70 w71 w72 w73 xp74 => ?_))
              have gh69 : my_fr [(4, 4), (4, 5), (4, 9), (5, 5), (5, 6), (5, 7), (5, 8), (5, 9), (32, -1), (33, -1), (34, -1), (35, -1), (36, -1), (37, -1), (39, -1)] h h69 := my_fr.tr gh47 (frh69.mo rfl)
              have Ln_h69 : Ln h69 := Ln_fx fxh69 (by first | assumption | omega) Ln_h47
              have Lo_h69 : Lo h h69 := Lo_fx fxh69 (by first | assumption | omega) Ln_h47 Lo_h47
              have Al_h69 : Al h69 := Al_ag (my_ag.fr frh69 rfl) Al_h47t53
              have Cu_h69 : Cu h69 := Cu_ag (my_ag.fr frh69 rfl) Cu_h47t54
              show wp l rho (d + 2) 56 80 [(2, 82), (0, (p2_0 + 1)), (0, v14)] [] h69 Q
              have ce75 : h69 82 2 = v5 := ((my_fr.at frh69 is_82 rfl).trans ((my_fr.at frh47 is_82 rfl).trans ((my_fr.at frh32 is_82 rfl).trans ((my_up_role fh30 is_82 (ix_4_5 tv5) rfl).trans ev5.symm))))
              have Sp_h69t76 : Sp h69 wv := Sp_add fxh69 (by first | assumption | omega) hwv Ln_h47 Sp_h47 xp74 (by have := St5_h47.1; omega) (by omega) (by omega)
              have std := Std_add xp74 sE (by omega) eS3 eS4 eS9 eS1
              have psR : h69 82 7 = (sN (cs h) (((sN (cs h) ((h2_0 82 7)))))) := ((my_fr.at frh69 is_82 rfl).trans xc55)
              have npsR : cs h69 = cs h := cs_eq (fun j => my_fr.at gh69 is_92 rfl) (my_fr.at gh69 is_82 rfl)
              have c77 := ((my_fr.at frh69 is_82 rfl).trans ((my_fr.at frh47 is_82 rfl).trans ((my_fr.at frh32 is_82 rfl).trans ((my_up_role fh30 is_82 (ix_4_5 tv5) rfl).trans ev12.symm))))
              exact w_vret gz_56_80 gm_56 (k1 h69 (gh69) (by omega) (by first | exact Lo_h69 | exact ⟨std.1, std.2.1, rfl, std.2.2.2⟩ | exact fwI_e fw_2_0 rfl (by omega) (by omega) (by omega) npk (by omega) (by omega) psR std.2.2.1 | exact fwI_3 fw_2_0 rfl (by omega) (by omega) (by omega) ipk (by omega) | exact fwI_1 fw_2_0 rfl (by first | exact Or.inl ⟨by omega, by omega⟩ | exact Or.inr (Or.inl ⟨by omega, by omega, by omega⟩)) | omega) (by first | exact Lo_h69 | exact ⟨std.1, std.2.1, rfl, std.2.2.2⟩ | exact fwI_e fw_2_0 rfl (by omega) (by omega) (by omega) npk (by omega) (by omega) psR std.2.2.1 | exact fwI_3 fw_2_0 rfl (by omega) (by omega) (by omega) ipk (by omega) | exact fwI_1 fw_2_0 rfl (by first | exact Or.inl ⟨by omega, by omega⟩ | exact Or.inr (Or.inl ⟨by omega, by omega, by omega⟩)) | omega) (by first | exact Lo_h69 | exact ⟨std.1, std.2.1, rfl, std.2.2.2⟩ | exact fwI_e fw_2_0 rfl (by omega) (by omega) (by omega) npk (by omega) (by omega) psR std.2.2.1 | exact fwI_3 fw_2_0 rfl (by omega) (by omega) (by omega) ipk (by omega) | exact fwI_1 fw_2_0 rfl (by first | exact Or.inl ⟨by omega, by omega⟩ | exact Or.inr (Or.inl ⟨by omega, by omega, by omega⟩)) | omega) Ln_h69 Sp_h69t76 Al_h69 Cu_h69)
            ·
              refine w_iload_n gz_56_62 rfl ?_
              refine w_bipush gz_56_63 (by decide) ?_
              refine w_icle (t := 2) gz_56_65 rfl (fun u78 => ?_) (fun u78 => by exfalso; omega)
              have psJ : h32 82 7 = (sN (cs h) ((h2_0 82 7))) := xc40
              have npsJ : cs h32 = cs h := cs_eq (fun j => my_fr.at gh32 is_92 rfl) (my_fr.at gh32 is_82 rfl)
              have ce79 : h32 82 2 = v5 := ((my_fr.at frh32 is_82 rfl).trans ((my_up_role fh30 is_82 (ix_4_5 tv5) rfl).trans ev5.symm))
              have hL : my_is 4 (h 82 2) := n_Ln.2.2.2.1
              have ce80 : h32 v5 1 = h2_0 v5 1 := ((my_fr.at frh32 tv5 rfl).trans ((my_up_role fh30 tv5 (ix_4_5 tv5) rfl).trans (rfl : h2_0 v5 1 = h2_0 v5 1)))
              have ce81 : h32 v5 3 = h2_0 v5 3 := ((my_fr.at frh32 tv5 rfl).trans ((my_up_role fh30 tv5 (ix_4_5 tv5) rfl).trans (rfl : h2_0 v5 3 = h2_0 v5 3)))
              have ce82 : h32 v5 4 = h2_0 v5 4 := ((my_fr.at frh32 tv5 rfl).trans ((my_up_role fh30 tv5 (ix_4_5 tv5) rfl).trans (rfl : h2_0 v5 4 = h2_0 v5 4)))
              have ce83 : h32 v5 9 = h2_0 v5 9 := ((my_fr.at frh32 tv5 rfl).trans ((my_up_role fh30 tv5 (ix_4_5 tv5) rfl).trans (rfl : h2_0 v5 9 = h2_0 v5 9)))
              refine w_weak (ls' := [(2, 82), (0, (p2_0 + 1)), (9, 0)]) (wk_e (wk_e (wk_9 wk_n))) ?_
              exact ih_2_0 ((p2_0 + 1)) h32 (gh32) (by omega) (by omega) (((my_fr.at frh32 is_82 rfl).trans ((my_up_role fh30 is_82 (ix_4_5 tv5) rfl).trans ev12.symm)).trans (by omega)) Ln_h32 Sp_h32 St5_h32 Al_h32t38 Cu_h32t39 Pk_h32 Lo_h32 (by first | exact fwI_0 (by first | rfl | omega) | exact fwI_s fw_2_0 rfl (by omega) (by omega) (by omega) npk (by omega) psJ (fun u => (pk2 u).trans (pks u)) | omega) (by first | rfl | omega) (by first | rfl | omega | (have a := f1_2_0; rw [← sE7] at a ⊢; omega) | omega) (by first | rfl | omega | (have a := f3_2_0; rw [← sE7] at a ⊢; omega) | omega) (by first | rfl | omega | (have a := f4_2_0; rw [← sE7] at a ⊢; omega) | omega) (by first | rfl | omega | (have a := f9_2_0; rw [← sE7] at a ⊢; omega) | omega) (by omega)
          ·
            show wp l rho (d + 2) 56 29 [(2, 82), (0, p2_0), (0, v14)] [(0, 1)] h2_0 Q
            have ipk : PkS h2_0 p2_0 v14 := by
              obtain ⟨i, a, b, d⟩ := xp20
              rw [s5e] at d
              exact ⟨i, a, b, d⟩
            refine w_ifeq (t := 38) gz_56_29 rfl (fun u84 => by exfalso; omega) (fun u84 => ?_)
            refine w_aload_n gz_56_32 rfl ?_
            refine w_iconst gz_56_33 (by decide) ?_
            refine w_inv (k := 0) (as := [(0, 3)]) (r := []) (x := 82) (ls0 := [(2, 82), (0, 3)]) gz_56_34 gm_42 rfl is_82 rd_5 rfl rfl rfl rfl rfl ?_
            refine w_aload_n gz_42_0 rfl ?_
            refine v_getI (j := 9) gz_42_1 rfl is_82 rd_5 rfl (fun v85 ev85 pv85 qv85 => ?_)
            have zv85 := ev85.trans ev12.symm
            refine w_ifne (t := 20) gz_42_4 rfl (fun u86 => by exfalso; omega) (fun u86 => ?_)
            refine w_aload_n gz_42_7 rfl ?_
            refine w_iload_n gz_42_8 rfl ?_
            refine w_bipush gz_42_9 (by decide) ?_
            refine w_aload_n gz_42_11 rfl ?_
            refine v_getI (j := 7) gz_42_12 rfl is_82 rd_5 rfl (fun v87 ev87 pv87 qv87 => ?_)
            refine w_imul gz_42_15 ⟨by omega, by omega⟩ ?_
            refine w_iadd gz_42_16 ⟨by omega, by omega⟩ ?_
            refine v_putI (j := 9) gz_42_17 rfl is_82 rd_5 rfl (by omega) (by omega) rfl (fun h88 fh88 => ?_)
            have gh88 : my_fr [(4, 4), (4, 5), (4, 9), (5, 5), (5, 6), (5, 7), (5, 8), (5, 9), (32, -1), (33, -1), (34, -1), (35, -1), (36, -1), (37, -1), (39, -1)] h h88 := my_fr.up gh_2_0 is_82 fh88 rfl
            have Ln_h88 : Ln h88 := Ln_ag (my_ag.up fh88 is_82 rfl) n_Ln_2_0
            have Sp_h88 : Sp h88 wv := Sp_ag (my_ag.up fh88 is_82 rfl) hwv n_Ln_2_0 n_Sp_2_0
            have St5_h88 : St5 h88 := St5_ag (my_ag.up fh88 is_82 rfl) n_Ln_2_0 n_St5_2_0
            have Al_h88 : Al h88 := Al_ag (my_ag.up fh88 is_82 rfl) n_Al_2_0
            have Cu_h88 : Cu h88 := Cu_ag (my_ag.up fh88 is_82 rfl) n_Cu_2_0
            have Pk_h88 : Pk h88 p2_0 := Pk_ag (my_ag.up fh88 is_82 rfl) n_Ln_2_0 n_Pk_2_0
            have Lo_h88 : Lo h h88 := Lo_ag (my_ag.up fh88 is_82 rfl) n_Ln_2_0 n_Lo_2_0
            refine w_vret gz_42_20 gm_42 ?_
            show wp l rho (d + 2) 56 37 [(2, 82), (0, p2_0), (0, v14)] [] h88 Q
            have psR : h88 82 7 = h2_0 82 7 := ((my_up_fld fh88 (by decide)).trans (rfl : h2_0 82 7 = h2_0 82 7))
            have npsR : cs h88 = cs h := cs_eq (fun j => my_fr.at gh88 is_92 rfl) (my_fr.at gh88 is_82 rfl)
            have c89 := (my_up_self fh88)
            exact w_vret gz_56_37 gm_56 (k0 h88 (gh88) (by omega) (by omega) (by first | exact Lo_h88 | exact ⟨std.1, std.2.1, rfl, std.2.2.2⟩ | exact fwI_e fw_2_0 rfl (by omega) (by omega) (by omega) npk (by omega) (by omega) psR std.2.2.1 | exact fwI_3 fw_2_0 rfl (by omega) (by omega) (by omega) ipk (by omega) | exact fwI_1 fw_2_0 rfl (by first | exact Or.inl ⟨by omega, by omega⟩ | exact Or.inr (Or.inl ⟨by omega, by omega, by omega⟩)) | omega) (by first | exact Lo_h88 | exact ⟨std.1, std.2.1, rfl, std.2.2.2⟩ | exact fwI_e fw_2_0 rfl (by omega) (by omega) (by omega) npk (by omega) (by omega) psR std.2.2.1 | exact fwI_3 fw_2_0 rfl (by omega) (by omega) (by omega) ipk (by omega) | exact fwI_1 fw_2_0 rfl (by first | exact Or.inl ⟨by omega, by omega⟩ | exact Or.inr (Or.inl ⟨by omega, by omega, by omega⟩)) | omega) Ln_h88 Sp_h88 Al_h88 Cu_h88)
        ·
          refine w_aload_n gz_44_23 rfl ?_
          refine w_iconst gz_44_24 (by decide) ?_
          refine w_inv (k := 0) (as := [(0, 4)]) (r := []) (x := 82) (ls0 := [(2, 82), (0, 4)]) gz_44_25 gm_42 rfl is_82 rd_5 rfl rfl rfl rfl rfl ?_
          refine w_aload_n gz_42_0 rfl ?_
          refine v_getI (j := 9) gz_42_1 rfl is_82 rd_5 rfl (fun v90 ev90 pv90 qv90 => ?_)
          have zv90 := ev90.trans c82_9_2_0
          refine w_ifne (t := 20) gz_42_4 rfl (fun u91 => by exfalso; omega) (fun u91 => ?_)
          refine w_aload_n gz_42_7 rfl ?_
          refine w_iload_n gz_42_8 rfl ?_
          refine w_bipush gz_42_9 (by decide) ?_
          refine w_aload_n gz_42_11 rfl ?_
          refine v_getI (j := 7) gz_42_12 rfl is_82 rd_5 rfl (fun v92 ev92 pv92 qv92 => ?_)
          refine w_imul gz_42_15 ⟨by omega, by omega⟩ ?_
          refine w_iadd gz_42_16 ⟨by omega, by omega⟩ ?_
          refine v_putI (j := 9) gz_42_17 rfl is_82 rd_5 rfl (by omega) (by omega) rfl (fun h93 fh93 => ?_)
          have gh93 : my_fr [(4, 4), (4, 5), (4, 9), (5, 5), (5, 6), (5, 7), (5, 8), (5, 9), (32, -1), (33, -1), (34, -1), (35, -1), (36, -1), (37, -1), (39, -1)] h h93 := my_fr.up gh_2_0 is_82 fh93 rfl
          have Ln_h93 : Ln h93 := Ln_ag (my_ag.up fh93 is_82 rfl) n_Ln_2_0
          have Sp_h93 : Sp h93 wv := Sp_ag (my_ag.up fh93 is_82 rfl) hwv n_Ln_2_0 n_Sp_2_0
          have St5_h93 : St5 h93 := St5_ag (my_ag.up fh93 is_82 rfl) n_Ln_2_0 n_St5_2_0
          have Al_h93 : Al h93 := Al_ag (my_ag.up fh93 is_82 rfl) n_Al_2_0
          have Cu_h93 : Cu h93 := Cu_ag (my_ag.up fh93 is_82 rfl) n_Cu_2_0
          have Pk_h93 : Pk h93 p2_0 := Pk_ag (my_ag.up fh93 is_82 rfl) n_Ln_2_0 n_Pk_2_0
          have Lo_h93 : Lo h h93 := Lo_ag (my_ag.up fh93 is_82 rfl) n_Ln_2_0 n_Lo_2_0
          refine w_vret gz_42_20 gm_42 ?_
          show wp l rho (d + 1) 44 28 [(2, 82), (0, v7)] [] h93 _
          refine w_iconst gz_44_28 (by decide) ?_
          refine w_iret gz_44_29 gm_44 ?_
          show wp l rho (d + 2) 56 13 [(2, 82), (0, p2_0), (9, 0)] [(0, (-1))] h93 Q
          refine w_istore_n (ls' := [(2, 82), (0, p2_0), (0, (-1))]) gz_56_13 gm_56 rfl rfl rfl ?_
          refine w_iload_n gz_56_14 rfl ?_
          refine w_iconst gz_56_15 (by decide) ?_
          refine w_icne (t := 20) gz_56_16 rfl (fun u94 => by exfalso; omega) (fun u94 => ?_)
          have psR : h93 82 7 = h2_0 82 7 := ((my_up_fld fh93 (by decide)).trans (rfl : h2_0 82 7 = h2_0 82 7))
          have npsR : cs h93 = cs h := cs_eq (fun j => my_fr.at gh93 is_92 rfl) (my_fr.at gh93 is_82 rfl)
          have c95 := (my_up_self fh93)
          exact w_vret gz_56_19 gm_56 (k0 h93 (gh93) (by omega) (by omega) (by first | exact Lo_h93 | exact ⟨std.1, std.2.1, rfl, std.2.2.2⟩ | exact fwI_e fw_2_0 rfl (by omega) (by omega) (by omega) npk (by omega) (by omega) psR std.2.2.1 | exact fwI_3 fw_2_0 rfl (by omega) (by omega) (by omega) ipk (by omega) | exact fwI_1 fw_2_0 rfl (by first | exact Or.inl ⟨by omega, by omega⟩ | exact Or.inr (Or.inl ⟨by omega, by omega, by omega⟩)) | omega) (by first | exact Lo_h93 | exact ⟨std.1, std.2.1, rfl, std.2.2.2⟩ | exact fwI_e fw_2_0 rfl (by omega) (by omega) (by omega) npk (by omega) (by omega) psR std.2.2.1 | exact fwI_3 fw_2_0 rfl (by omega) (by omega) (by omega) ipk (by omega) | exact fwI_1 fw_2_0 rfl (by first | exact Or.inl ⟨by omega, by omega⟩ | exact Or.inr (Or.inl ⟨by omega, by omega, by omega⟩)) | omega) Ln_h93 Sp_h93 Al_h93 Cu_h93)
      ·
        refine w_aload_n gz_44_8 rfl ?_
        refine w_iconst gz_44_9 (by decide) ?_
        refine w_inv (k := 0) (as := [(0, 1)]) (r := []) (x := 82) (ls0 := [(2, 82), (0, 1)]) gz_44_10 gm_42 rfl is_82 rd_5 rfl rfl rfl rfl rfl ?_
        refine w_aload_n gz_42_0 rfl ?_
        refine v_getI (j := 9) gz_42_1 rfl is_82 rd_5 rfl (fun v96 ev96 pv96 qv96 => ?_)
        have zv96 := ev96.trans c82_9_2_0
        refine w_ifne (t := 20) gz_42_4 rfl (fun u97 => by exfalso; omega) (fun u97 => ?_)
        refine w_aload_n gz_42_7 rfl ?_
        refine w_iload_n gz_42_8 rfl ?_
        refine w_bipush gz_42_9 (by decide) ?_
        refine w_aload_n gz_42_11 rfl ?_
        refine v_getI (j := 7) gz_42_12 rfl is_82 rd_5 rfl (fun v98 ev98 pv98 qv98 => ?_)
        refine w_imul gz_42_15 ⟨by omega, by omega⟩ ?_
        refine w_iadd gz_42_16 ⟨by omega, by omega⟩ ?_
        refine v_putI (j := 9) gz_42_17 rfl is_82 rd_5 rfl (by omega) (by omega) rfl (fun h99 fh99 => ?_)
        have gh99 : my_fr [(4, 4), (4, 5), (4, 9), (5, 5), (5, 6), (5, 7), (5, 8), (5, 9), (32, -1), (33, -1), (34, -1), (35, -1), (36, -1), (37, -1), (39, -1)] h h99 := my_fr.up gh_2_0 is_82 fh99 rfl
        have Ln_h99 : Ln h99 := Ln_ag (my_ag.up fh99 is_82 rfl) n_Ln_2_0
        have Sp_h99 : Sp h99 wv := Sp_ag (my_ag.up fh99 is_82 rfl) hwv n_Ln_2_0 n_Sp_2_0
        have St5_h99 : St5 h99 := St5_ag (my_ag.up fh99 is_82 rfl) n_Ln_2_0 n_St5_2_0
        have Al_h99 : Al h99 := Al_ag (my_ag.up fh99 is_82 rfl) n_Al_2_0
        have Cu_h99 : Cu h99 := Cu_ag (my_ag.up fh99 is_82 rfl) n_Cu_2_0
        have Pk_h99 : Pk h99 p2_0 := Pk_ag (my_ag.up fh99 is_82 rfl) n_Ln_2_0 n_Pk_2_0
        have Lo_h99 : Lo h h99 := Lo_ag (my_ag.up fh99 is_82 rfl) n_Ln_2_0 n_Lo_2_0
        refine w_vret gz_42_20 gm_42 ?_
        show wp l rho (d + 1) 44 13 [(2, 82), (0, v7)] [] h99 _
        refine w_iconst gz_44_13 (by decide) ?_
        refine w_iret gz_44_14 gm_44 ?_
        show wp l rho (d + 2) 56 13 [(2, 82), (0, p2_0), (9, 0)] [(0, (-1))] h99 Q
        refine w_istore_n (ls' := [(2, 82), (0, p2_0), (0, (-1))]) gz_56_13 gm_56 rfl rfl rfl ?_
        refine w_iload_n gz_56_14 rfl ?_
        refine w_iconst gz_56_15 (by decide) ?_
        refine w_icne (t := 20) gz_56_16 rfl (fun u100 => by exfalso; omega) (fun u100 => ?_)
        have psR : h99 82 7 = h2_0 82 7 := ((my_up_fld fh99 (by decide)).trans (rfl : h2_0 82 7 = h2_0 82 7))
        have npsR : cs h99 = cs h := cs_eq (fun j => my_fr.at gh99 is_92 rfl) (my_fr.at gh99 is_82 rfl)
        have c101 := (my_up_self fh99)
        exact w_vret gz_56_19 gm_56 (k0 h99 (gh99) (by omega) (by omega) (by first | exact Lo_h99 | exact ⟨std.1, std.2.1, rfl, std.2.2.2⟩ | exact fwI_e fw_2_0 rfl (by omega) (by omega) (by omega) npk (by omega) (by omega) psR std.2.2.1 | exact fwI_3 fw_2_0 rfl (by omega) (by omega) (by omega) ipk (by omega) | exact fwI_1 fw_2_0 rfl (by first | exact Or.inl ⟨by omega, by omega⟩ | exact Or.inr (Or.inl ⟨by omega, by omega, by omega⟩)) | omega) (by first | exact Lo_h99 | exact ⟨std.1, std.2.1, rfl, std.2.2.2⟩ | exact fwI_e fw_2_0 rfl (by omega) (by omega) (by omega) npk (by omega) (by omega) psR std.2.2.1 | exact fwI_3 fw_2_0 rfl (by omega) (by omega) (by omega) ipk (by omega) | exact fwI_1 fw_2_0 rfl (by first | exact Or.inl ⟨by omega, by omega⟩ | exact Or.inr (Or.inl ⟨by omega, by omega, by omega⟩)) | omega) Ln_h99 Sp_h99 Al_h99 Cu_h99)
  refine w_iconst gz_56_0 (by decide) ?_
  refine w_istore_n (ls' := [(2, 82), (0, 0), (9, 0)]) gz_56_1 gm_56 rfl rfl rfl ?_
  have psJ : h 82 7 = h 82 7 := (rfl : h 82 7 = h 82 7)
  have npsJ : cs h = cs h := rfl
  have hL : my_is 4 (h 82 2) := n_Ln.2.2.2.1
  exact J2_0 9 (0) h (my_fr.rf) (by omega) (by omega) (cf.trans (by omega)) n_Ln n_Sp n_St5 n_Al n_Cu (fun i j a b c => absurd c (by omega)) (Lo_rf) (by first | exact fwI_0 (by first | rfl | omega) | exact fwI_s fw_2_0 rfl (by omega) (by omega) (by omega) npk (by omega) psJ (fun u => (pk2 u).trans (pks u)) | omega) (by first | rfl | omega) (by first | rfl | omega | (have a := f1_2_0; rw [← sE7] at a ⊢; omega) | omega) (by first | rfl | omega | (have a := f3_2_0; rw [← sE7] at a ⊢; omega) | omega) (by first | rfl | omega | (have a := f4_2_0; rw [← sE7] at a ⊢; omega) | omega) (by first | rfl | omega | (have a := f9_2_0; rw [← sE7] at a ⊢; omega) | omega) (by omega)
theorem c_Reader_readJoin9_f0 {l : Launch} {rho : Nat → Int32} {d : Nat} {h : my_H} {Q : my_H → my_V → Prop} {wv : Int} (cf : h 82 9 = 0) (hwv : wv ≤ 5) (hwv0 : 0 ≤ wv) (n_Ln : Ln h) (n_Sp : Sp h wv) (n_St5 : St5 h) (n_Al : Al h) (n_Cu : Cu h) (k0 : ∀ (h' : my_H), my_fr [(4, 4), (4, 5), (4, 6), (4, 8), (4, 9), (5, 5), (5, 6), (5, 7), (5, 8), (5, 9), (32, -1), (33, -1), (34, -1), (35, -1), (37, -1)] h h' → 1 ≤ h' 82 9 → h' 82 9 ≤ 16005 → joinR (cs h) (h 2) (h 82 7) (h (h 82 2) 4) (h' 82 9) (h' 82 7) → Lo h h' → Ln h' → Sp h' wv → Al h' → Cu h' → Q h' (9, 0)) (k1 : ∀ (h' : my_H), my_fr [(4, 4), (4, 5), (4, 6), (4, 8), (4, 9), (5, 5), (5, 6), (5, 7), (5, 8), (5, 9), (32, -1), (33, -1), (34, -1), (35, -1), (37, -1)] h h' → h' 82 9 = 0 → joinR (cs h) (h 2) (h 82 7) (h (h 82 2) 4) (h' 82 9) (h' 82 7) → Std h h' (h (h 82 2) 4 + h 2 (sV (cs h) (h 82 7)) - 1) (h (h 82 2) 9 + 1) → Lo h h' → Ln h' → Sp h' wv → Al h' → Cu h' → Q h' (9, 0)) : wp l rho (d + 6) 60 0 [(2, 82), (9, 0), (9, 0), (9, 0)] [] h Q := by
  have ck1 := Cu_s n_Cu
  refine w_aload_n gz_60_0 rfl ?_
  refine w_inv (k := 1) (as := []) (r := []) (x := 82) (ls0 := [(2, 82), (9, 0)]) gz_60_1 gm_43 rfl is_82 rd_5 rfl rfl rfl rfl rfl (c_Reader_wallNumber9_f0 (d := (d + 3))  (cf.trans (by omega)) n_Al n_Cu (fun h2 frh2 w3 w4 xp5 Al_h2t6 Cu_h2t7 => ?_) (fun h8 v9 frh8 w10 w11 w12 w13 w14 w15 xp16 xp17 xp18 xp19 Al_h8t20 Cu_h8t21 => ?_))
  ·
    have gh2 : my_fr [(4, 4), (4, 5), (4, 6), (4, 8), (4, 9), (5, 5), (5, 6), (5, 7), (5, 8), (5, 9), (32, -1), (33, -1), (34, -1), (35, -1), (37, -1)] h h2 := my_fr.tr my_fr.rf (frh2.mo rfl)
    have Ln_h2 : Ln h2 := Ln_ag (my_ag.fr frh2 rfl) n_Ln
    have Sp_h2 : Sp h2 wv := Sp_ag (my_ag.fr frh2 rfl) hwv n_Ln n_Sp
    have St5_h2 : St5 h2 := St5_ag (my_ag.fr frh2 rfl) n_Ln n_St5
    have Al_h2 : Al h2 := Al_ag (my_ag.fr frh2 rfl) n_Al
    have Cu_h2 : Cu h2 := Cu_ag (my_ag.fr frh2 rfl) n_Cu
    have Lo_h2 : Lo h h2 := Lo_ag (my_ag.fr frh2 rfl) n_Ln (Lo_rf)
    show wp l rho (d + 6) 60 4 [(2, 82), (9, 0), (9, 0), (9, 0)] [(0, (-1))] h2 Q
    refine w_istore_n (ls' := [(2, 82), (0, (-1)), (9, 0), (9, 0)]) gz_60_4 gm_60 rfl rfl rfl ?_
    refine w_iload_n gz_60_5 rfl ?_
    refine w_iconst gz_60_6 (by decide) ?_
    refine w_icne (t := 11) gz_60_7 rfl (fun u22 => by exfalso; omega) (fun u22 => ?_)
    have psR : h2 82 7 = h 82 7 := ((my_fr.at frh2 is_82 rfl).trans (rfl : h 82 7 = h 82 7))
    have npsR : cs h2 = cs h := cs_eq (fun j => my_fr.at gh2 is_92 rfl) (my_fr.at gh2 is_82 rfl)
    have c23 := (rfl : h2 82 9 = h2 82 9)
    exact w_vret gz_60_10 gm_60 (k0 h2 (gh2) (by omega) (by omega) (by first | exact Lo_h2 | (rw [← w20]; exact std) | (unfold joinR; first | exact Or.inr (Or.inr ⟨by omega, by omega, Or.inr (Or.inr ⟨by omega, by omega, Or.inr ⟨by omega, Or.inr (Or.inr ⟨by omega, by omega, Or.inr ⟨by omega, by omega, by omega⟩⟩)⟩⟩)⟩) | exact Or.inr (Or.inr ⟨by omega, by omega, Or.inr (Or.inr ⟨by omega, by omega, Or.inr ⟨by omega, Or.inr (Or.inr ⟨by omega, by omega, Or.inl ⟨by omega, by omega⟩⟩)⟩⟩)⟩) | exact Or.inr (Or.inr ⟨by omega, by omega, Or.inr (Or.inr ⟨by omega, by omega, Or.inr ⟨by omega, Or.inr (Or.inl ⟨by omega, by omega, by omega⟩)⟩⟩)⟩) | exact Or.inr (Or.inr ⟨by omega, by omega, Or.inr (Or.inr ⟨by omega, by omega, Or.inr ⟨by omega, Or.inl ⟨by omega, by omega⟩⟩⟩)⟩) | exact Or.inr (Or.inr ⟨by omega, by omega, Or.inr (Or.inr ⟨by omega, by omega, Or.inl ⟨by omega, by omega⟩⟩)⟩) | exact Or.inr (Or.inr ⟨by omega, by omega, Or.inr (Or.inl ⟨by omega, by omega, by omega⟩)⟩) | exact Or.inr (Or.inr ⟨by omega, by omega, Or.inl ⟨by omega, by omega⟩⟩) | exact Or.inr (Or.inl ⟨by omega, by omega, by omega⟩) | exact Or.inl ⟨by omega, by omega⟩) | omega) (by first | exact Lo_h2 | (rw [← w20]; exact std) | (unfold joinR; first | exact Or.inr (Or.inr ⟨by omega, by omega, Or.inr (Or.inr ⟨by omega, by omega, Or.inr ⟨by omega, Or.inr (Or.inr ⟨by omega, by omega, Or.inr ⟨by omega, by omega, by omega⟩⟩)⟩⟩)⟩) | exact Or.inr (Or.inr ⟨by omega, by omega, Or.inr (Or.inr ⟨by omega, by omega, Or.inr ⟨by omega, Or.inr (Or.inr ⟨by omega, by omega, Or.inl ⟨by omega, by omega⟩⟩)⟩⟩)⟩) | exact Or.inr (Or.inr ⟨by omega, by omega, Or.inr (Or.inr ⟨by omega, by omega, Or.inr ⟨by omega, Or.inr (Or.inl ⟨by omega, by omega, by omega⟩)⟩⟩)⟩) | exact Or.inr (Or.inr ⟨by omega, by omega, Or.inr (Or.inr ⟨by omega, by omega, Or.inr ⟨by omega, Or.inl ⟨by omega, by omega⟩⟩⟩)⟩) | exact Or.inr (Or.inr ⟨by omega, by omega, Or.inr (Or.inr ⟨by omega, by omega, Or.inl ⟨by omega, by omega⟩⟩)⟩) | exact Or.inr (Or.inr ⟨by omega, by omega, Or.inr (Or.inl ⟨by omega, by omega, by omega⟩)⟩) | exact Or.inr (Or.inr ⟨by omega, by omega, Or.inl ⟨by omega, by omega⟩⟩) | exact Or.inr (Or.inl ⟨by omega, by omega, by omega⟩) | exact Or.inl ⟨by omega, by omega⟩) | omega) Ln_h2 Sp_h2 Al_h2t6 Cu_h2t7)
  ·
    have gh8 : my_fr [(4, 4), (4, 5), (4, 6), (4, 8), (4, 9), (5, 5), (5, 6), (5, 7), (5, 8), (5, 9), (32, -1), (33, -1), (34, -1), (35, -1), (37, -1)] h h8 := my_fr.tr my_fr.rf (frh8.mo rfl)
    have Ln_h8 : Ln h8 := Ln_ag (my_ag.fr frh8 rfl) n_Ln
    have Sp_h8 : Sp h8 wv := Sp_ag (my_ag.fr frh8 rfl) hwv n_Ln n_Sp
    have St5_h8 : St5 h8 := St5_ag (my_ag.fr frh8 rfl) n_Ln n_St5
    have Al_h8 : Al h8 := Al_ag (my_ag.fr frh8 rfl) n_Al
    have Cu_h8 : Cu h8 := Cu_ag (my_ag.fr frh8 rfl) n_Cu
    have Lo_h8 : Lo h h8 := Lo_ag (my_ag.fr frh8 rfl) n_Ln (Lo_rf)
    show wp l rho (d + 6) 60 4 [(2, 82), (9, 0), (9, 0), (9, 0)] [(0, v9)] h8 Q
    refine w_istore_n (ls' := [(2, 82), (0, v9), (9, 0), (9, 0)]) gz_60_4 gm_60 rfl rfl rfl ?_
    refine w_iload_n gz_60_5 rfl ?_
    refine w_iconst gz_60_6 (by decide) ?_
    refine w_icne (t := 11) gz_60_7 rfl (fun u24 => ?_) (fun u24 => by exfalso; omega)
    refine w_aload_n gz_60_11 rfl ?_
    refine w_getX (v := 1) gz_60_12 is_82 rd_5 rfl (by decide) rfl ?_
    refine w_getX (v := 2) gz_60_15 is_1 rd_3 rfl (by decide) rfl ?_
    refine w_iload_n gz_60_18 rfl ?_
    refine w_iald gz_60_19 is_2 rd_25 (by omega) (by omega) (fun v27 ev27 pv27 qv27 => ?_)
    have w20 : v27 = h 2 (sV (cs h) (h 82 7)) := by
      rw [← show v9 = sV (cs h) (h 82 7) by omega]
      have z := my_fr.at (j := v9) gh8 is_2 rfl
      omega
    refine w_istore_n (ls' := [(2, 82), (0, v9), (0, v27), (9, 0)]) gz_60_20 gm_60 rfl rfl rfl ?_
    refine w_aload_n gz_60_21 rfl ?_
    refine v_getR (j := 2) gz_60_22 rfl is_82 rd_5 rfl (fun v28 ev28 tv28 => ?_)
    have ce29 : h8 82 2 = v28 := ev28.symm
    have ce30 : h8 v28 4 = h v28 4 := ((my_fr.at frh8 tv28 rfl).trans (rfl : h v28 4 = h v28 4))
    have sE28 : v28 = h 82 2 := by first | assumption | omega
    refine v_getI (j := 4) gz_60_25 rfl tv28 rd_4 rfl (fun v31 ev31 pv31 qv31 => ?_)
    have c28 : v31 = h (h 82 2) 4 := by rw [← sE28]; omega
    refine w_iload_n gz_60_28 rfl ?_
    refine w_iadd gz_60_29 ⟨by omega, by omega⟩ ?_
    refine w_iconst gz_60_30 (by decide) ?_
    refine w_isub gz_60_31 ⟨by omega, by omega⟩ ?_
    refine w_bipush gz_60_32 (by decide) ?_
    refine w_icle (t := 43) gz_60_34 rfl (fun u32 => ?_) (fun u32 => ?_)
    ·
      refine w_aload_n gz_60_43 rfl ?_
      refine w_inv (k := 2) (as := []) (r := []) (x := 82) (ls0 := [(2, 82), (9, 0), (9, 0)]) gz_60_44 gm_37 rfl is_82 rd_5 rfl rfl rfl rfl rfl (c_Reader_nextToken9_f0 (d := (d + 4))  (w15.trans (by omega)) Al_h8t20 (fun h33 frh33 w34 w35 w36 xp37 xp38 Al_h33t39 Cu_h33t40 => ?_))
      have gh33 : my_fr [(4, 4), (4, 5), (4, 6), (4, 8), (4, 9), (5, 5), (5, 6), (5, 7), (5, 8), (5, 9), (32, -1), (33, -1), (34, -1), (35, -1), (37, -1)] h h33 := my_fr.tr gh8 (frh33.mo rfl)
      have Ln_h33 : Ln h33 := Ln_ag (my_ag.fr frh33 rfl) Ln_h8
      have Sp_h33 : Sp h33 wv := Sp_ag (my_ag.fr frh33 rfl) hwv Ln_h8 Sp_h8
      have St5_h33 : St5 h33 := St5_ag (my_ag.fr frh33 rfl) Ln_h8 St5_h8
      have Lo_h33 : Lo h h33 := Lo_ag (my_ag.fr frh33 rfl) Ln_h8 Lo_h8
      show wp l rho (d + 6) 60 47 [(2, 82), (0, v9), (0, v27), (9, 0)] [] h33 Q
      have xc41 := xp37 Cu_h8t21
      have tE42 : cs h8 = cs h := cs_eq (fun j => my_fr.at gh8 is_92 rfl) (my_fr.at gh8 is_82 rfl)
      rw [tE42] at xc41
      have ps43 : h8 82 7 = h 82 7 := ((my_fr.at frh8 is_82 rfl).trans (rfl : h 82 7 = h 82 7))
      rw [ps43] at xc41
      have ck44 := Cu_s Cu_h33t40
      rw [show cs h33 = cs h from cs_eq (fun j => my_fr.at gh33 is_92 rfl) (my_fr.at gh33 is_82 rfl)] at ck44
      rw [show h33 82 7 = (sN (cs h) ((h 82 7))) from xc41] at ck44
      refine w_aload_n gz_60_47 rfl ?_
      refine w_ldcS gz_60_48 (by decide) ?_
      refine w_inv (k := 0) (as := [(3, ((12 : Nat) : Int))]) (r := []) (x := 82) (ls0 := [(2, 82), (3, ((12 : Nat) : Int))]) gz_60_50 gm_40 rfl is_82 rd_5 rfl rfl rfl rfl rfl (c_Reader_takeWord9_f0 (d := d) (x1 := ((12 : Nat) : Int)) (by decide) (((my_fr.at frh33 is_82 rfl).trans w15).trans (by omega)) Al_h33t39 Cu_h33t40 (fun h45 frh45 w46 w47 xp48 xp49 Al_h45t50 Cu_h45t51 => ?_) (fun h52 frh52 w53 xp54 xp55 Al_h52t56 Cu_h52t57 => ?_))
      ·
        have gh45 : my_fr [(4, 4), (4, 5), (4, 6), (4, 8), (4, 9), (5, 5), (5, 6), (5, 7), (5, 8), (5, 9), (32, -1), (33, -1), (34, -1), (35, -1), (37, -1)] h h45 := my_fr.tr gh33 (frh45.mo rfl)
        have Ln_h45 : Ln h45 := Ln_ag (my_ag.fr frh45 rfl) Ln_h33
        have Sp_h45 : Sp h45 wv := Sp_ag (my_ag.fr frh45 rfl) hwv Ln_h33 Sp_h33
        have St5_h45 : St5 h45 := St5_ag (my_ag.fr frh45 rfl) Ln_h33 St5_h33
        have Lo_h45 : Lo h h45 := Lo_ag (my_ag.fr frh45 rfl) Ln_h33 Lo_h33
        show wp l rho (d + 6) 60 53 [(2, 82), (0, v9), (0, v27), (9, 0)] [(0, 0)] h45 Q
        rw [show wc ((12 : Nat) : Int) = 99 from by decide] at xp48
        have tE58 : cs h33 = cs h := cs_eq (fun j => my_fr.at gh33 is_92 rfl) (my_fr.at gh33 is_82 rfl)
        rw [tE58] at xp48
        have ps59 : h33 82 7 = (sN (cs h) ((h 82 7))) := xc41
        rw [ps59] at xp48
        rw [ps59] at xp49
        refine w_ifne (t := 57) gz_60_53 rfl (fun u60 => by exfalso; omega) (fun u60 => ?_)
        have psR : h45 82 7 = h45 82 7 := (rfl : h45 82 7 = h45 82 7)
        have npsR : cs h45 = cs h := cs_eq (fun j => my_fr.at gh45 is_92 rfl) (my_fr.at gh45 is_82 rfl)
        have c61 := (rfl : h45 82 9 = h45 82 9)
        exact w_vret gz_60_56 gm_60 (k0 h45 (gh45) (by omega) (by omega) (by first | exact Lo_h45 | (rw [← w20]; exact std) | (unfold joinR; first | exact Or.inr (Or.inr ⟨by omega, by omega, Or.inr (Or.inr ⟨by omega, by omega, Or.inr ⟨by omega, Or.inr (Or.inr ⟨by omega, by omega, Or.inr ⟨by omega, by omega, by omega⟩⟩)⟩⟩)⟩) | exact Or.inr (Or.inr ⟨by omega, by omega, Or.inr (Or.inr ⟨by omega, by omega, Or.inr ⟨by omega, Or.inr (Or.inr ⟨by omega, by omega, Or.inl ⟨by omega, by omega⟩⟩)⟩⟩)⟩) | exact Or.inr (Or.inr ⟨by omega, by omega, Or.inr (Or.inr ⟨by omega, by omega, Or.inr ⟨by omega, Or.inr (Or.inl ⟨by omega, by omega, by omega⟩)⟩⟩)⟩) | exact Or.inr (Or.inr ⟨by omega, by omega, Or.inr (Or.inr ⟨by omega, by omega, Or.inr ⟨by omega, Or.inl ⟨by omega, by omega⟩⟩⟩)⟩) | exact Or.inr (Or.inr ⟨by omega, by omega, Or.inr (Or.inr ⟨by omega, by omega, Or.inl ⟨by omega, by omega⟩⟩)⟩) | exact Or.inr (Or.inr ⟨by omega, by omega, Or.inr (Or.inl ⟨by omega, by omega, by omega⟩)⟩) | exact Or.inr (Or.inr ⟨by omega, by omega, Or.inl ⟨by omega, by omega⟩⟩) | exact Or.inr (Or.inl ⟨by omega, by omega, by omega⟩) | exact Or.inl ⟨by omega, by omega⟩) | omega) (by first | exact Lo_h45 | (rw [← w20]; exact std) | (unfold joinR; first | exact Or.inr (Or.inr ⟨by omega, by omega, Or.inr (Or.inr ⟨by omega, by omega, Or.inr ⟨by omega, Or.inr (Or.inr ⟨by omega, by omega, Or.inr ⟨by omega, by omega, by omega⟩⟩)⟩⟩)⟩) | exact Or.inr (Or.inr ⟨by omega, by omega, Or.inr (Or.inr ⟨by omega, by omega, Or.inr ⟨by omega, Or.inr (Or.inr ⟨by omega, by omega, Or.inl ⟨by omega, by omega⟩⟩)⟩⟩)⟩) | exact Or.inr (Or.inr ⟨by omega, by omega, Or.inr (Or.inr ⟨by omega, by omega, Or.inr ⟨by omega, Or.inr (Or.inl ⟨by omega, by omega, by omega⟩)⟩⟩)⟩) | exact Or.inr (Or.inr ⟨by omega, by omega, Or.inr (Or.inr ⟨by omega, by omega, Or.inr ⟨by omega, Or.inl ⟨by omega, by omega⟩⟩⟩)⟩) | exact Or.inr (Or.inr ⟨by omega, by omega, Or.inr (Or.inr ⟨by omega, by omega, Or.inl ⟨by omega, by omega⟩⟩)⟩) | exact Or.inr (Or.inr ⟨by omega, by omega, Or.inr (Or.inl ⟨by omega, by omega, by omega⟩)⟩) | exact Or.inr (Or.inr ⟨by omega, by omega, Or.inl ⟨by omega, by omega⟩⟩) | exact Or.inr (Or.inl ⟨by omega, by omega, by omega⟩) | exact Or.inl ⟨by omega, by omega⟩) | omega) Ln_h45 Sp_h45 Al_h45t50 Cu_h45t51)
      ·
        have gh52 : my_fr [(4, 4), (4, 5), (4, 6), (4, 8), (4, 9), (5, 5), (5, 6), (5, 7), (5, 8), (5, 9), (32, -1), (33, -1), (34, -1), (35, -1), (37, -1)] h h52 := my_fr.tr gh33 (frh52.mo rfl)
        have Ln_h52 : Ln h52 := Ln_ag (my_ag.fr frh52 rfl) Ln_h33
        have Sp_h52 : Sp h52 wv := Sp_ag (my_ag.fr frh52 rfl) hwv Ln_h33 Sp_h33
        have St5_h52 : St5 h52 := St5_ag (my_ag.fr frh52 rfl) Ln_h33 St5_h33
        have Lo_h52 : Lo h h52 := Lo_ag (my_ag.fr frh52 rfl) Ln_h33 Lo_h33
        show wp l rho (d + 6) 60 53 [(2, 82), (0, v9), (0, v27), (9, 0)] [(0, 1)] h52 Q
        have tE62 : cs h33 = cs h := cs_eq (fun j => my_fr.at gh33 is_92 rfl) (my_fr.at gh33 is_82 rfl)
        rw [tE62] at xp54
        have ps63 : h33 82 7 = (sN (cs h) ((h 82 7))) := xc41
        rw [ps63] at xp54
        rw [show wc ((12 : Nat) : Int) = 99 from by decide] at xp55
        rw [tE62] at xp55
        rw [ps63] at xp55
        have ck64 := Cu_s Cu_h52t57
        rw [show cs h52 = cs h from cs_eq (fun j => my_fr.at gh52 is_92 rfl) (my_fr.at gh52 is_82 rfl)] at ck64
        rw [show h52 82 7 = (sN (cs h) (((sN (cs h) ((h 82 7)))))) from xp54] at ck64
        refine w_ifne (t := 57) gz_60_53 rfl (fun u65 => ?_) (fun u65 => by exfalso; omega)
        refine w_aload_n gz_60_57 rfl ?_
        refine w_aload_n gz_60_58 rfl ?_
        refine v_getR (j := 2) gz_60_59 rfl is_82 rd_5 rfl (fun v66 ev66 tv66 => ?_)
        have zv66 : v28 = v66 := (ev66.trans ((my_fr.at frh52 is_82 rfl).trans ((my_fr.at frh33 is_82 rfl).trans ev28.symm))).symm
        subst zv66
        have ce67 : h52 82 2 = v28 := ((my_fr.at frh52 is_82 rfl).trans ((my_fr.at frh33 is_82 rfl).trans ev28.symm))
        have ce68 : h52 v28 4 = h v28 4 := ((my_fr.at frh52 tv28 rfl).trans ((my_fr.at frh33 tv28 rfl).trans ((my_fr.at frh8 tv28 rfl).trans (rfl : h v28 4 = h v28 4))))
        have sE65 : v28 = h 82 2 := by first | assumption | omega
        refine v_getI (j := 4) gz_60_62 rfl tv28 rd_4 rfl (fun v69 ev69 pv69 qv69 => ?_)
        have zv69 := ev69.trans ((my_fr.at frh52 tv28 rfl).trans ((my_fr.at frh33 tv28 rfl).trans ev31.symm))
        have c65 : v69 = h (h 82 2) 4 := by rw [← sE65]; omega
        refine w_inv (k := 1) (as := [(0, v69)]) (r := []) (x := 82) (ls0 := [(2, 82), (0, v69), (9, 0)]) gz_60_65 gm_51 rfl is_82 rd_5 rfl rfl rfl rfl rfl (c_Reader_takeNumber9_f0 (d := (d + 3)) (x1 := v69) (by omega) (by omega) (w53.trans (by omega)) Al_h52t56 Cu_h52t57 (fun h70 frh70 w71 w72 xp73 Al_h70t74 Cu_h70t75 => ?_) (fun h76 v77 frh76 w78 w79 w80 w81 w82 xp83 xp84 xp85 Al_h76t86 Cu_h76t87 => ?_))
        ·
          have gh70 : my_fr [(4, 4), (4, 5), (4, 6), (4, 8), (4, 9), (5, 5), (5, 6), (5, 7), (5, 8), (5, 9), (32, -1), (33, -1), (34, -1), (35, -1), (37, -1)] h h70 := my_fr.tr gh52 (frh70.mo rfl)
          have Ln_h70 : Ln h70 := Ln_ag (my_ag.fr frh70 rfl) Ln_h52
          have Sp_h70 : Sp h70 wv := Sp_ag (my_ag.fr frh70 rfl) hwv Ln_h52 Sp_h52
          have St5_h70 : St5 h70 := St5_ag (my_ag.fr frh70 rfl) Ln_h52 St5_h52
          have Lo_h70 : Lo h h70 := Lo_ag (my_ag.fr frh70 rfl) Ln_h52 Lo_h52
          show wp l rho (d + 6) 60 68 [(2, 82), (0, v9), (0, v27), (9, 0)] [(0, (-1))] h70 Q
          have tE88 : cs h52 = cs h := cs_eq (fun j => my_fr.at gh52 is_92 rfl) (my_fr.at gh52 is_82 rfl)
          rw [tE88] at xp73
          have ps89 : h52 82 7 = (sN (cs h) (((sN (cs h) ((h 82 7)))))) := xp54
          rw [ps89] at xp73
          refine w_istore_n (ls' := [(2, 82), (0, v9), (0, v27), (0, (-1))]) gz_60_68 gm_60 rfl rfl rfl ?_
          refine w_aload_n gz_60_69 rfl ?_
          refine v_getI (j := 9) gz_60_70 rfl is_82 rd_5 rfl (fun v90 ev90 pv90 qv90 => ?_)
          have zv90 := ev90.trans (rfl : h70 82 9 = h70 82 9)
          refine w_ifne (t := 93) gz_60_73 rfl (fun u91 => ?_) (fun u91 => by exfalso; omega)
          have psR : h70 82 7 = h70 82 7 := (rfl : h70 82 7 = h70 82 7)
          have npsR : cs h70 = cs h := cs_eq (fun j => my_fr.at gh70 is_92 rfl) (my_fr.at gh70 is_82 rfl)
          have c92 := ev90.symm
          exact w_vret gz_60_93 gm_60 (k0 h70 (gh70) (by omega) (by omega) (by first | exact Lo_h70 | (rw [← w20]; exact std) | (unfold joinR; first | exact Or.inr (Or.inr ⟨by omega, by omega, Or.inr (Or.inr ⟨by omega, by omega, Or.inr ⟨by omega, Or.inr (Or.inr ⟨by omega, by omega, Or.inr ⟨by omega, by omega, by omega⟩⟩)⟩⟩)⟩) | exact Or.inr (Or.inr ⟨by omega, by omega, Or.inr (Or.inr ⟨by omega, by omega, Or.inr ⟨by omega, Or.inr (Or.inr ⟨by omega, by omega, Or.inl ⟨by omega, by omega⟩⟩)⟩⟩)⟩) | exact Or.inr (Or.inr ⟨by omega, by omega, Or.inr (Or.inr ⟨by omega, by omega, Or.inr ⟨by omega, Or.inr (Or.inl ⟨by omega, by omega, by omega⟩)⟩⟩)⟩) | exact Or.inr (Or.inr ⟨by omega, by omega, Or.inr (Or.inr ⟨by omega, by omega, Or.inr ⟨by omega, Or.inl ⟨by omega, by omega⟩⟩⟩)⟩) | exact Or.inr (Or.inr ⟨by omega, by omega, Or.inr (Or.inr ⟨by omega, by omega, Or.inl ⟨by omega, by omega⟩⟩)⟩) | exact Or.inr (Or.inr ⟨by omega, by omega, Or.inr (Or.inl ⟨by omega, by omega, by omega⟩)⟩) | exact Or.inr (Or.inr ⟨by omega, by omega, Or.inl ⟨by omega, by omega⟩⟩) | exact Or.inr (Or.inl ⟨by omega, by omega, by omega⟩) | exact Or.inl ⟨by omega, by omega⟩) | omega) (by first | exact Lo_h70 | (rw [← w20]; exact std) | (unfold joinR; first | exact Or.inr (Or.inr ⟨by omega, by omega, Or.inr (Or.inr ⟨by omega, by omega, Or.inr ⟨by omega, Or.inr (Or.inr ⟨by omega, by omega, Or.inr ⟨by omega, by omega, by omega⟩⟩)⟩⟩)⟩) | exact Or.inr (Or.inr ⟨by omega, by omega, Or.inr (Or.inr ⟨by omega, by omega, Or.inr ⟨by omega, Or.inr (Or.inr ⟨by omega, by omega, Or.inl ⟨by omega, by omega⟩⟩)⟩⟩)⟩) | exact Or.inr (Or.inr ⟨by omega, by omega, Or.inr (Or.inr ⟨by omega, by omega, Or.inr ⟨by omega, Or.inr (Or.inl ⟨by omega, by omega, by omega⟩)⟩⟩)⟩) | exact Or.inr (Or.inr ⟨by omega, by omega, Or.inr (Or.inr ⟨by omega, by omega, Or.inr ⟨by omega, Or.inl ⟨by omega, by omega⟩⟩⟩)⟩) | exact Or.inr (Or.inr ⟨by omega, by omega, Or.inr (Or.inr ⟨by omega, by omega, Or.inl ⟨by omega, by omega⟩⟩)⟩) | exact Or.inr (Or.inr ⟨by omega, by omega, Or.inr (Or.inl ⟨by omega, by omega, by omega⟩)⟩) | exact Or.inr (Or.inr ⟨by omega, by omega, Or.inl ⟨by omega, by omega⟩⟩) | exact Or.inr (Or.inl ⟨by omega, by omega, by omega⟩) | exact Or.inl ⟨by omega, by omega⟩) | omega) Ln_h70 Sp_h70 Al_h70t74 Cu_h70t75)
        ·
          have gh76 : my_fr [(4, 4), (4, 5), (4, 6), (4, 8), (4, 9), (5, 5), (5, 6), (5, 7), (5, 8), (5, 9), (32, -1), (33, -1), (34, -1), (35, -1), (37, -1)] h h76 := my_fr.tr gh52 (frh76.mo rfl)
          have Ln_h76 : Ln h76 := Ln_ag (my_ag.fr frh76 rfl) Ln_h52
          have Sp_h76 : Sp h76 wv := Sp_ag (my_ag.fr frh76 rfl) hwv Ln_h52 Sp_h52
          have St5_h76 : St5 h76 := St5_ag (my_ag.fr frh76 rfl) Ln_h52 St5_h52
          have Lo_h76 : Lo h h76 := Lo_ag (my_ag.fr frh76 rfl) Ln_h52 Lo_h52
          show wp l rho (d + 6) 60 68 [(2, 82), (0, v9), (0, v27), (9, 0)] [(0, v77)] h76 Q
          have tE93 : cs h52 = cs h := cs_eq (fun j => my_fr.at gh52 is_92 rfl) (my_fr.at gh52 is_82 rfl)
          rw [tE93] at xp83
          have ps94 : h52 82 7 = (sN (cs h) (((sN (cs h) ((h 82 7)))))) := xp54
          rw [ps94] at xp83
          rw [tE93] at xp84
          rw [ps94] at xp84
          rw [tE93] at xp85
          rw [ps94] at xp85
          have ck95 := Cu_s Cu_h76t87
          rw [show cs h76 = cs h from cs_eq (fun j => my_fr.at gh76 is_92 rfl) (my_fr.at gh76 is_82 rfl)] at ck95
          rw [show h76 82 7 = (sN (cs h) (((sN (cs h) (((sN (cs h) ((h 82 7))))))))) from xp83] at ck95
          refine w_istore_n (ls' := [(2, 82), (0, v9), (0, v27), (0, v77)]) gz_60_68 gm_60 rfl rfl rfl ?_
          refine w_aload_n gz_60_69 rfl ?_
          refine v_getI (j := 9) gz_60_70 rfl is_82 rd_5 rfl (fun v96 ev96 pv96 qv96 => ?_)
          have zv96 := ev96.trans w82
          refine w_ifne (t := 93) gz_60_73 rfl (fun u97 => by exfalso; omega) (fun u97 => ?_)
          refine w_aload_n gz_60_76 rfl ?_
          refine w_inv (k := 0) (as := []) (r := []) (x := 82) (ls0 := [(2, 82)]) gz_60_77 gm_47 rfl is_82 rd_5 rfl rfl rfl rfl rfl (c_Reader_endsHere9_f0 (d := (d + 3))  (ev96.symm.trans (by omega)) Al_h76t86 Cu_h76t87 (fun h98 frh98 w99 w100 xp101 xp102 Al_h98t103 Cu_h98t104 => ?_) (fun h105 frh105 w106 xp107 xp108 Al_h105t109 Cu_h105t110 => ?_))
          ·
            have gh98 : my_fr [(4, 4), (4, 5), (4, 6), (4, 8), (4, 9), (5, 5), (5, 6), (5, 7), (5, 8), (5, 9), (32, -1), (33, -1), (34, -1), (35, -1), (37, -1)] h h98 := my_fr.tr gh76 (frh98.mo rfl)
            have Ln_h98 : Ln h98 := Ln_ag (my_ag.fr frh98 rfl) Ln_h76
            have Sp_h98 : Sp h98 wv := Sp_ag (my_ag.fr frh98 rfl) hwv Ln_h76 Sp_h76
            have St5_h98 : St5 h98 := St5_ag (my_ag.fr frh98 rfl) Ln_h76 St5_h76
            have Lo_h98 : Lo h h98 := Lo_ag (my_ag.fr frh98 rfl) Ln_h76 Lo_h76
            show wp l rho (d + 6) 60 80 [(2, 82), (0, v9), (0, v27), (0, v77)] [(0, 0)] h98 Q
            have tE111 : cs h76 = cs h := cs_eq (fun j => my_fr.at gh76 is_92 rfl) (my_fr.at gh76 is_82 rfl)
            rw [tE111] at xp101
            have ps112 : h76 82 7 = (sN (cs h) (((sN (cs h) (((sN (cs h) ((h 82 7))))))))) := xp83
            rw [ps112] at xp101
            rw [ps112] at xp102
            refine w_ifeq (t := 93) gz_60_80 rfl (fun u113 => ?_) (fun u113 => by exfalso; omega)
            have psR : h98 82 7 = h98 82 7 := (rfl : h98 82 7 = h98 82 7)
            have npsR : cs h98 = cs h := cs_eq (fun j => my_fr.at gh98 is_92 rfl) (my_fr.at gh98 is_82 rfl)
            have c114 := (rfl : h98 82 9 = h98 82 9)
            exact w_vret gz_60_93 gm_60 (k0 h98 (gh98) (by omega) (by omega) (by first | exact Lo_h98 | (rw [← w20]; exact std) | (unfold joinR; first | exact Or.inr (Or.inr ⟨by omega, by omega, Or.inr (Or.inr ⟨by omega, by omega, Or.inr ⟨by omega, Or.inr (Or.inr ⟨by omega, by omega, Or.inr ⟨by omega, by omega, by omega⟩⟩)⟩⟩)⟩) | exact Or.inr (Or.inr ⟨by omega, by omega, Or.inr (Or.inr ⟨by omega, by omega, Or.inr ⟨by omega, Or.inr (Or.inr ⟨by omega, by omega, Or.inl ⟨by omega, by omega⟩⟩)⟩⟩)⟩) | exact Or.inr (Or.inr ⟨by omega, by omega, Or.inr (Or.inr ⟨by omega, by omega, Or.inr ⟨by omega, Or.inr (Or.inl ⟨by omega, by omega, by omega⟩)⟩⟩)⟩) | exact Or.inr (Or.inr ⟨by omega, by omega, Or.inr (Or.inr ⟨by omega, by omega, Or.inr ⟨by omega, Or.inl ⟨by omega, by omega⟩⟩⟩)⟩) | exact Or.inr (Or.inr ⟨by omega, by omega, Or.inr (Or.inr ⟨by omega, by omega, Or.inl ⟨by omega, by omega⟩⟩)⟩) | exact Or.inr (Or.inr ⟨by omega, by omega, Or.inr (Or.inl ⟨by omega, by omega, by omega⟩)⟩) | exact Or.inr (Or.inr ⟨by omega, by omega, Or.inl ⟨by omega, by omega⟩⟩) | exact Or.inr (Or.inl ⟨by omega, by omega, by omega⟩) | exact Or.inl ⟨by omega, by omega⟩) | omega) (by first | exact Lo_h98 | (rw [← w20]; exact std) | (unfold joinR; first | exact Or.inr (Or.inr ⟨by omega, by omega, Or.inr (Or.inr ⟨by omega, by omega, Or.inr ⟨by omega, Or.inr (Or.inr ⟨by omega, by omega, Or.inr ⟨by omega, by omega, by omega⟩⟩)⟩⟩)⟩) | exact Or.inr (Or.inr ⟨by omega, by omega, Or.inr (Or.inr ⟨by omega, by omega, Or.inr ⟨by omega, Or.inr (Or.inr ⟨by omega, by omega, Or.inl ⟨by omega, by omega⟩⟩)⟩⟩)⟩) | exact Or.inr (Or.inr ⟨by omega, by omega, Or.inr (Or.inr ⟨by omega, by omega, Or.inr ⟨by omega, Or.inr (Or.inl ⟨by omega, by omega, by omega⟩)⟩⟩)⟩) | exact Or.inr (Or.inr ⟨by omega, by omega, Or.inr (Or.inr ⟨by omega, by omega, Or.inr ⟨by omega, Or.inl ⟨by omega, by omega⟩⟩⟩)⟩) | exact Or.inr (Or.inr ⟨by omega, by omega, Or.inr (Or.inr ⟨by omega, by omega, Or.inl ⟨by omega, by omega⟩⟩)⟩) | exact Or.inr (Or.inr ⟨by omega, by omega, Or.inr (Or.inl ⟨by omega, by omega, by omega⟩)⟩) | exact Or.inr (Or.inr ⟨by omega, by omega, Or.inl ⟨by omega, by omega⟩⟩) | exact Or.inr (Or.inl ⟨by omega, by omega, by omega⟩) | exact Or.inl ⟨by omega, by omega⟩) | omega) Ln_h98 Sp_h98 Al_h98t103 Cu_h98t104)
          ·
            have gh105 : my_fr [(4, 4), (4, 5), (4, 6), (4, 8), (4, 9), (5, 5), (5, 6), (5, 7), (5, 8), (5, 9), (32, -1), (33, -1), (34, -1), (35, -1), (37, -1)] h h105 := my_fr.tr gh76 (frh105.mo rfl)
            have Ln_h105 : Ln h105 := Ln_ag (my_ag.fr frh105 rfl) Ln_h76
            have Sp_h105 : Sp h105 wv := Sp_ag (my_ag.fr frh105 rfl) hwv Ln_h76 Sp_h76
            have St5_h105 : St5 h105 := St5_ag (my_ag.fr frh105 rfl) Ln_h76 St5_h76
            have Lo_h105 : Lo h h105 := Lo_ag (my_ag.fr frh105 rfl) Ln_h76 Lo_h76
            show wp l rho (d + 6) 60 80 [(2, 82), (0, v9), (0, v27), (0, v77)] [(0, 1)] h105 Q
            have tE115 : cs h76 = cs h := cs_eq (fun j => my_fr.at gh76 is_92 rfl) (my_fr.at gh76 is_82 rfl)
            rw [tE115] at xp107
            have ps116 : h76 82 7 = (sN (cs h) (((sN (cs h) (((sN (cs h) ((h 82 7))))))))) := xp83
            rw [ps116] at xp107
            rw [tE115] at xp108
            rw [ps116] at xp108
            have ck117 := Cu_s Cu_h105t110
            rw [show cs h105 = cs h from cs_eq (fun j => my_fr.at gh105 is_92 rfl) (my_fr.at gh105 is_82 rfl)] at ck117
            rw [show h105 82 7 = (sN (cs h) (((sN (cs h) (((sN (cs h) (((sN (cs h) ((h 82 7)))))))))))) from xp107] at ck117
            refine w_ifeq (t := 93) gz_60_80 rfl (fun u118 => by exfalso; omega) (fun u118 => ?_)
            refine w_aload_n gz_60_83 rfl ?_
            refine v_getR (j := 2) gz_60_84 rfl is_82 rd_5 rfl (fun v119 ev119 tv119 => ?_)
            have zv119 : v28 = v119 := (ev119.trans ((my_fr.at frh105 is_82 rfl).trans ((my_fr.at frh76 is_82 rfl).trans ((my_fr.at frh52 is_82 rfl).trans ((my_fr.at frh33 is_82 rfl).trans ev28.symm))))).symm
            subst zv119
            refine w_iload_n gz_60_87 rfl ?_
            refine w_iload_n gz_60_88 rfl ?_
            refine w_iload_n gz_60_89 rfl ?_
            have ce120 : h105 82 2 = v28 := ((my_fr.at frh105 is_82 rfl).trans ((my_fr.at frh76 is_82 rfl).trans ((my_fr.at frh52 is_82 rfl).trans ((my_fr.at frh33 is_82 rfl).trans ev28.symm))))
            have s5a := St5_h105
            have s5e : v28 = h105 82 2 := by first | assumption | omega
            unfold St5 at s5a
            rw [← s5e] at s5a
            have ce121 : h105 v28 1 = h v28 1 := ((my_fr.at frh105 tv28 rfl).trans ((my_fr.at frh76 tv28 rfl).trans ((my_fr.at frh52 tv28 rfl).trans ((my_fr.at frh33 tv28 rfl).trans ((my_fr.at frh8 tv28 rfl).trans (rfl : h v28 1 = h v28 1))))))
            have ce122 : h105 v28 3 = h v28 3 := ((my_fr.at frh105 tv28 rfl).trans ((my_fr.at frh76 tv28 rfl).trans ((my_fr.at frh52 tv28 rfl).trans ((my_fr.at frh33 tv28 rfl).trans ((my_fr.at frh8 tv28 rfl).trans (rfl : h v28 3 = h v28 3))))))
            have ce123 : h105 v28 4 = h v28 4 := ((my_fr.at frh105 tv28 rfl).trans ((my_fr.at frh76 tv28 rfl).trans ((my_fr.at frh52 tv28 rfl).trans ((my_fr.at frh33 tv28 rfl).trans ((my_fr.at frh8 tv28 rfl).trans (rfl : h v28 4 = h v28 4))))))
            have ce124 : h105 v28 9 = h v28 9 := ((my_fr.at frh105 tv28 rfl).trans ((my_fr.at frh76 tv28 rfl).trans ((my_fr.at frh52 tv28 rfl).trans ((my_fr.at frh33 tv28 rfl).trans ((my_fr.at frh8 tv28 rfl).trans (rfl : h v28 9 = h v28 9))))))
            have sE : v28 = h 82 2 := by first | assumption | omega
            have eS1 : h105 v28 1 = h v28 1 := by omega
            have eS3 : h105 v28 3 = h v28 3 := by omega
            have eS4 : h105 v28 4 = h v28 4 := by omega
            have eS9 : h105 v28 9 = h v28 9 := by omega
            have hi125 : 1 ≤ v27 := by first | omega | (subst_vars; omega) | grind | omega
            have hi126 : v27 ≤ 4 := by first | omega | (subst_vars; omega) | grind | omega
            refine w_inv (k := 1) (as := [(0, v77), (0, v27), (0, v9)]) (r := []) (x := v28) (ls0 := [(2, v28), (0, v9), (0, v27), (0, v77), (9, 0)]) gz_60_90 gm_61 rfl tv28 rd_4 rfl rfl rfl rfl rfl (c_Lens_addJoin (d := (d + 4)) (x0 := v28) (x1 := v9) (x2 := v27) (x3 := v77) tv28 (by omega) (by omega) (by omega) (by omega) (by omega) (by omega) (by first | assumption | exact no_such_saying | exact Fp_told (by omega) (by omega) | omega | (subst_vars; omega) | omega) (by first | assumption | exact no_such_saying | exact Fp_told (by omega) (by omega) | omega | (subst_vars; omega) | omega) (fun h127 frh127 fxh127 w128 w129 xp130 => ?_))
            have gh127 : my_fr [(4, 4), (4, 5), (4, 6), (4, 8), (4, 9), (5, 5), (5, 6), (5, 7), (5, 8), (5, 9), (32, -1), (33, -1), (34, -1), (35, -1), (37, -1)] h h127 := my_fr.tr gh105 (frh127.mo rfl)
            have Ln_h127 : Ln h127 := Ln_fx fxh127 (by first | assumption | omega) Ln_h105
            have Lo_h127 : Lo h h127 := Lo_fx fxh127 (by first | assumption | omega) Ln_h105 Lo_h105
            have Al_h127 : Al h127 := Al_ag (my_ag.fr frh127 rfl) Al_h105t109
            have Cu_h127 : Cu h127 := Cu_ag (my_ag.fr frh127 rfl) Cu_h105t110
            show wp l rho (d + 6) 60 93 [(2, 82), (0, v9), (0, v27), (0, v77)] [] h127 Q
            have Sp_h127t131 : Sp h127 wv := Sp_add fxh127 (by first | assumption | omega) hwv Ln_h105 Sp_h105 xp130 (by have := St5_h105.1; omega) (by omega) (by omega)
            have ce132 : h127 82 2 = v28 := ((my_fr.at frh127 is_82 rfl).trans ((my_fr.at frh105 is_82 rfl).trans ((my_fr.at frh76 is_82 rfl).trans ((my_fr.at frh52 is_82 rfl).trans ((my_fr.at frh33 is_82 rfl).trans ev28.symm)))))
            have std := Std_add xp130 sE (by omega) eS3 eS4 eS9 eS1
            have psR : h127 82 7 = (sN (cs h) (((sN (cs h) (((sN (cs h) (((sN (cs h) ((h 82 7)))))))))))) := ((my_fr.at frh127 is_82 rfl).trans xp107)
            have npsR : cs h127 = cs h := cs_eq (fun j => my_fr.at gh127 is_92 rfl) (my_fr.at gh127 is_82 rfl)
            have c133 := ((my_fr.at frh127 is_82 rfl).trans w106)
            exact w_vret gz_60_93 gm_60 (k1 h127 (gh127) (by omega) (by first | exact Lo_h127 | (rw [← w20]; exact std) | (unfold joinR; first | exact Or.inr (Or.inr ⟨by omega, by omega, Or.inr (Or.inr ⟨by omega, by omega, Or.inr ⟨by omega, Or.inr (Or.inr ⟨by omega, by omega, Or.inr ⟨by omega, by omega, by omega⟩⟩)⟩⟩)⟩) | exact Or.inr (Or.inr ⟨by omega, by omega, Or.inr (Or.inr ⟨by omega, by omega, Or.inr ⟨by omega, Or.inr (Or.inr ⟨by omega, by omega, Or.inl ⟨by omega, by omega⟩⟩)⟩⟩)⟩) | exact Or.inr (Or.inr ⟨by omega, by omega, Or.inr (Or.inr ⟨by omega, by omega, Or.inr ⟨by omega, Or.inr (Or.inl ⟨by omega, by omega, by omega⟩)⟩⟩)⟩) | exact Or.inr (Or.inr ⟨by omega, by omega, Or.inr (Or.inr ⟨by omega, by omega, Or.inr ⟨by omega, Or.inl ⟨by omega, by omega⟩⟩⟩)⟩) | exact Or.inr (Or.inr ⟨by omega, by omega, Or.inr (Or.inr ⟨by omega, by omega, Or.inl ⟨by omega, by omega⟩⟩)⟩) | exact Or.inr (Or.inr ⟨by omega, by omega, Or.inr (Or.inl ⟨by omega, by omega, by omega⟩)⟩) | exact Or.inr (Or.inr ⟨by omega, by omega, Or.inl ⟨by omega, by omega⟩⟩) | exact Or.inr (Or.inl ⟨by omega, by omega, by omega⟩) | exact Or.inl ⟨by omega, by omega⟩) | omega) (by first | exact Lo_h127 | (rw [← w20]; exact std) | (unfold joinR; first | exact Or.inr (Or.inr ⟨by omega, by omega, Or.inr (Or.inr ⟨by omega, by omega, Or.inr ⟨by omega, Or.inr (Or.inr ⟨by omega, by omega, Or.inr ⟨by omega, by omega, by omega⟩⟩)⟩⟩)⟩) | exact Or.inr (Or.inr ⟨by omega, by omega, Or.inr (Or.inr ⟨by omega, by omega, Or.inr ⟨by omega, Or.inr (Or.inr ⟨by omega, by omega, Or.inl ⟨by omega, by omega⟩⟩)⟩⟩)⟩) | exact Or.inr (Or.inr ⟨by omega, by omega, Or.inr (Or.inr ⟨by omega, by omega, Or.inr ⟨by omega, Or.inr (Or.inl ⟨by omega, by omega, by omega⟩)⟩⟩)⟩) | exact Or.inr (Or.inr ⟨by omega, by omega, Or.inr (Or.inr ⟨by omega, by omega, Or.inr ⟨by omega, Or.inl ⟨by omega, by omega⟩⟩⟩)⟩) | exact Or.inr (Or.inr ⟨by omega, by omega, Or.inr (Or.inr ⟨by omega, by omega, Or.inl ⟨by omega, by omega⟩⟩)⟩) | exact Or.inr (Or.inr ⟨by omega, by omega, Or.inr (Or.inl ⟨by omega, by omega, by omega⟩)⟩) | exact Or.inr (Or.inr ⟨by omega, by omega, Or.inl ⟨by omega, by omega⟩⟩) | exact Or.inr (Or.inl ⟨by omega, by omega, by omega⟩) | exact Or.inl ⟨by omega, by omega⟩) | omega) (by first | exact Lo_h127 | (rw [← w20]; exact std) | (unfold joinR; first | exact Or.inr (Or.inr ⟨by omega, by omega, Or.inr (Or.inr ⟨by omega, by omega, Or.inr ⟨by omega, Or.inr (Or.inr ⟨by omega, by omega, Or.inr ⟨by omega, by omega, by omega⟩⟩)⟩⟩)⟩) | exact Or.inr (Or.inr ⟨by omega, by omega, Or.inr (Or.inr ⟨by omega, by omega, Or.inr ⟨by omega, Or.inr (Or.inr ⟨by omega, by omega, Or.inl ⟨by omega, by omega⟩⟩)⟩⟩)⟩) | exact Or.inr (Or.inr ⟨by omega, by omega, Or.inr (Or.inr ⟨by omega, by omega, Or.inr ⟨by omega, Or.inr (Or.inl ⟨by omega, by omega, by omega⟩)⟩⟩)⟩) | exact Or.inr (Or.inr ⟨by omega, by omega, Or.inr (Or.inr ⟨by omega, by omega, Or.inr ⟨by omega, Or.inl ⟨by omega, by omega⟩⟩⟩)⟩) | exact Or.inr (Or.inr ⟨by omega, by omega, Or.inr (Or.inr ⟨by omega, by omega, Or.inl ⟨by omega, by omega⟩⟩)⟩) | exact Or.inr (Or.inr ⟨by omega, by omega, Or.inr (Or.inl ⟨by omega, by omega, by omega⟩)⟩) | exact Or.inr (Or.inr ⟨by omega, by omega, Or.inl ⟨by omega, by omega⟩⟩) | exact Or.inr (Or.inl ⟨by omega, by omega, by omega⟩) | exact Or.inl ⟨by omega, by omega⟩) | omega) Ln_h127 Sp_h127t131 Al_h127 Cu_h127)
    ·
      refine w_aload_n gz_60_37 rfl ?_
      refine w_iconst gz_60_38 (by decide) ?_
      refine w_inv (k := 0) (as := [(0, 5)]) (r := []) (x := 82) (ls0 := [(2, 82), (0, 5)]) gz_60_39 gm_42 rfl is_82 rd_5 rfl rfl rfl rfl rfl ?_
      refine w_aload_n gz_42_0 rfl ?_
      refine v_getI (j := 9) gz_42_1 rfl is_82 rd_5 rfl (fun v134 ev134 pv134 qv134 => ?_)
      have zv134 := ev134.trans w15
      refine w_ifne (t := 20) gz_42_4 rfl (fun u135 => by exfalso; omega) (fun u135 => ?_)
      refine w_aload_n gz_42_7 rfl ?_
      refine w_iload_n gz_42_8 rfl ?_
      refine w_bipush gz_42_9 (by decide) ?_
      refine w_aload_n gz_42_11 rfl ?_
      refine v_getI (j := 7) gz_42_12 rfl is_82 rd_5 rfl (fun v136 ev136 pv136 qv136 => ?_)
      refine w_imul gz_42_15 ⟨by omega, by omega⟩ ?_
      refine w_iadd gz_42_16 ⟨by omega, by omega⟩ ?_
      refine v_putI (j := 9) gz_42_17 rfl is_82 rd_5 rfl (by omega) (by omega) rfl (fun h137 fh137 => ?_)
      have gh137 : my_fr [(4, 4), (4, 5), (4, 6), (4, 8), (4, 9), (5, 5), (5, 6), (5, 7), (5, 8), (5, 9), (32, -1), (33, -1), (34, -1), (35, -1), (37, -1)] h h137 := my_fr.up gh8 is_82 fh137 rfl
      have Ln_h137 : Ln h137 := Ln_ag (my_ag.up fh137 is_82 rfl) Ln_h8
      have Sp_h137 : Sp h137 wv := Sp_ag (my_ag.up fh137 is_82 rfl) hwv Ln_h8 Sp_h8
      have St5_h137 : St5 h137 := St5_ag (my_ag.up fh137 is_82 rfl) Ln_h8 St5_h8
      have Al_h137 : Al h137 := Al_ag (my_ag.up fh137 is_82 rfl) Al_h8t20
      have Cu_h137 : Cu h137 := Cu_ag (my_ag.up fh137 is_82 rfl) Cu_h8t21
      have Lo_h137 : Lo h h137 := Lo_ag (my_ag.up fh137 is_82 rfl) Ln_h8 Lo_h8
      refine w_vret gz_42_20 gm_42 ?_
      show wp l rho (d + 6) 60 42 [(2, 82), (0, v9), (0, v27), (9, 0)] [] h137 Q
      have psR : h137 82 7 = h 82 7 := ((my_up_fld fh137 (by decide)).trans ((my_fr.at frh8 is_82 rfl).trans (rfl : h 82 7 = h 82 7)))
      have npsR : cs h137 = cs h := cs_eq (fun j => my_fr.at gh137 is_92 rfl) (my_fr.at gh137 is_82 rfl)
      have c138 := (my_up_self fh137)
      exact w_vret gz_60_42 gm_60 (k0 h137 (gh137) (by omega) (by omega) (by first | exact Lo_h137 | (rw [← w20]; exact std) | (unfold joinR; first | exact Or.inr (Or.inr ⟨by omega, by omega, Or.inr (Or.inr ⟨by omega, by omega, Or.inr ⟨by omega, Or.inr (Or.inr ⟨by omega, by omega, Or.inr ⟨by omega, by omega, by omega⟩⟩)⟩⟩)⟩) | exact Or.inr (Or.inr ⟨by omega, by omega, Or.inr (Or.inr ⟨by omega, by omega, Or.inr ⟨by omega, Or.inr (Or.inr ⟨by omega, by omega, Or.inl ⟨by omega, by omega⟩⟩)⟩⟩)⟩) | exact Or.inr (Or.inr ⟨by omega, by omega, Or.inr (Or.inr ⟨by omega, by omega, Or.inr ⟨by omega, Or.inr (Or.inl ⟨by omega, by omega, by omega⟩)⟩⟩)⟩) | exact Or.inr (Or.inr ⟨by omega, by omega, Or.inr (Or.inr ⟨by omega, by omega, Or.inr ⟨by omega, Or.inl ⟨by omega, by omega⟩⟩⟩)⟩) | exact Or.inr (Or.inr ⟨by omega, by omega, Or.inr (Or.inr ⟨by omega, by omega, Or.inl ⟨by omega, by omega⟩⟩)⟩) | exact Or.inr (Or.inr ⟨by omega, by omega, Or.inr (Or.inl ⟨by omega, by omega, by omega⟩)⟩) | exact Or.inr (Or.inr ⟨by omega, by omega, Or.inl ⟨by omega, by omega⟩⟩) | exact Or.inr (Or.inl ⟨by omega, by omega, by omega⟩) | exact Or.inl ⟨by omega, by omega⟩) | omega) (by first | exact Lo_h137 | (rw [← w20]; exact std) | (unfold joinR; first | exact Or.inr (Or.inr ⟨by omega, by omega, Or.inr (Or.inr ⟨by omega, by omega, Or.inr ⟨by omega, Or.inr (Or.inr ⟨by omega, by omega, Or.inr ⟨by omega, by omega, by omega⟩⟩)⟩⟩)⟩) | exact Or.inr (Or.inr ⟨by omega, by omega, Or.inr (Or.inr ⟨by omega, by omega, Or.inr ⟨by omega, Or.inr (Or.inr ⟨by omega, by omega, Or.inl ⟨by omega, by omega⟩⟩)⟩⟩)⟩) | exact Or.inr (Or.inr ⟨by omega, by omega, Or.inr (Or.inr ⟨by omega, by omega, Or.inr ⟨by omega, Or.inr (Or.inl ⟨by omega, by omega, by omega⟩)⟩⟩)⟩) | exact Or.inr (Or.inr ⟨by omega, by omega, Or.inr (Or.inr ⟨by omega, by omega, Or.inr ⟨by omega, Or.inl ⟨by omega, by omega⟩⟩⟩)⟩) | exact Or.inr (Or.inr ⟨by omega, by omega, Or.inr (Or.inr ⟨by omega, by omega, Or.inl ⟨by omega, by omega⟩⟩)⟩) | exact Or.inr (Or.inr ⟨by omega, by omega, Or.inr (Or.inl ⟨by omega, by omega, by omega⟩)⟩) | exact Or.inr (Or.inr ⟨by omega, by omega, Or.inl ⟨by omega, by omega⟩⟩) | exact Or.inr (Or.inl ⟨by omega, by omega, by omega⟩) | exact Or.inl ⟨by omega, by omega⟩) | omega) Ln_h137 Sp_h137 Al_h137 Cu_h137)
theorem c_Reader_readSum9_f0 {l : Launch} {rho : Nat → Int32} {d : Nat} {h : my_H} {Q : my_H → my_V → Prop} {wv : Int} (cf : h 82 9 = 0) (hwv : wv ≤ 5) (hwv0 : 0 ≤ wv) (n_Ln : Ln h) (n_Sp : Sp h wv) (n_St5 : St5 h) (n_Al : Al h) (n_Cu : Cu h) (k0 : ∀ (h' : my_H), my_fr [(4, 4), (4, 5), (4, 7), (4, 8), (4, 9), (5, 5), (5, 6), (5, 7), (5, 8), (5, 9), (32, -1), (33, -1), (34, -1), (35, -1), (37, -1)] h h' → 1 ≤ h' 82 9 → h' 82 9 ≤ 16004 → sumR (cs h) (h 82 7) (h (h 82 2) 4) (h' 82 9) (h' 82 7) → Lo h h' → Ln h' → Sp h' wv → Al h' → Cu h' → Q h' (9, 0)) (k1 : ∀ (h' : my_H), my_fr [(4, 4), (4, 5), (4, 7), (4, 8), (4, 9), (5, 5), (5, 6), (5, 7), (5, 8), (5, 9), (32, -1), (33, -1), (34, -1), (35, -1), (37, -1)] h h' → h' 82 9 = 0 → sumR (cs h) (h 82 7) (h (h 82 2) 4) (h' 82 9) (h' 82 7) → Std h h' 2 (h (h 82 2) 9 + 1) → Lo h h' → Ln h' → Sp h' wv → Al h' → Cu h' → Q h' (9, 0)) : wp l rho (d + 6) 62 0 [(2, 82), (9, 0), (9, 0)] [] h Q := by
  have ck1 := Cu_s n_Cu
  have cv2 := Cu_v n_Cu
  refine w_aload_n gz_62_0 rfl ?_
  refine w_aload_n gz_62_1 rfl ?_
  refine v_getR (j := 2) gz_62_2 rfl is_82 rd_5 rfl (fun v3 ev3 tv3 => ?_)
  have ce4 : h 82 2 = v3 := ev3.symm
  have sE8 : v3 = h 82 2 := by first | assumption | omega
  refine v_getI (j := 4) gz_62_5 rfl tv3 rd_4 rfl (fun v5 ev5 pv5 qv5 => ?_)
  have c8 : v5 = h (h 82 2) 4 := by rw [← sE8]; omega
  refine w_inv (k := 1) (as := [(0, v5)]) (r := []) (x := 82) (ls0 := [(2, 82), (0, v5), (9, 0)]) gz_62_8 gm_51 rfl is_82 rd_5 rfl rfl rfl rfl rfl (c_Reader_takeNumber9_f0 (d := (d + 3)) (x1 := v5) (by omega) (by omega) (cf.trans (by omega)) n_Al n_Cu (fun h6 frh6 w7 w8 xp9 Al_h6t10 Cu_h6t11 => ?_) (fun h12 v13 frh12 w14 w15 w16 w17 w18 xp19 xp20 xp21 Al_h12t22 Cu_h12t23 => ?_))
  ·
    have gh6 : my_fr [(4, 4), (4, 5), (4, 7), (4, 8), (4, 9), (5, 5), (5, 6), (5, 7), (5, 8), (5, 9), (32, -1), (33, -1), (34, -1), (35, -1), (37, -1)] h h6 := my_fr.tr my_fr.rf (frh6.mo rfl)
    have Ln_h6 : Ln h6 := Ln_ag (my_ag.fr frh6 rfl) n_Ln
    have Sp_h6 : Sp h6 wv := Sp_ag (my_ag.fr frh6 rfl) hwv n_Ln n_Sp
    have St5_h6 : St5 h6 := St5_ag (my_ag.fr frh6 rfl) n_Ln n_St5
    have Lo_h6 : Lo h h6 := Lo_ag (my_ag.fr frh6 rfl) n_Ln (Lo_rf)
    show wp l rho (d + 6) 62 11 [(2, 82), (9, 0), (9, 0)] [(0, (-1))] h6 Q
    refine w_istore_n (ls' := [(2, 82), (0, (-1)), (9, 0)]) gz_62_11 gm_62 rfl rfl rfl ?_
    refine w_aload_n gz_62_12 rfl ?_
    refine v_getI (j := 9) gz_62_13 rfl is_82 rd_5 rfl (fun v24 ev24 pv24 qv24 => ?_)
    have zv24 := ev24.trans (rfl : h6 82 9 = h6 82 9)
    refine w_ifne (t := 28) gz_62_16 rfl (fun u25 => ?_) (fun u25 => by exfalso; omega)
    have psR : h6 82 7 = h6 82 7 := (rfl : h6 82 7 = h6 82 7)
    have npsR : cs h6 = cs h := cs_eq (fun j => my_fr.at gh6 is_92 rfl) (my_fr.at gh6 is_82 rfl)
    have c26 := ev24.symm
    exact w_vret gz_62_28 gm_62 (k0 h6 (gh6) (by omega) (by omega) (by first | exact Lo_h6 | exact std | (unfold sumR; first | exact Or.inr (Or.inr ⟨by omega, by omega, Or.inr ⟨by omega, Or.inr ⟨by omega, Or.inr (Or.inr ⟨by omega, by omega, Or.inr ⟨by omega, by omega, by omega⟩⟩)⟩⟩⟩) | exact Or.inr (Or.inr ⟨by omega, by omega, Or.inr ⟨by omega, Or.inr ⟨by omega, Or.inr (Or.inr ⟨by omega, by omega, Or.inl ⟨by omega, by omega⟩⟩)⟩⟩⟩) | exact Or.inr (Or.inr ⟨by omega, by omega, Or.inr ⟨by omega, Or.inr ⟨by omega, Or.inr (Or.inl ⟨by omega, by omega, by omega⟩)⟩⟩⟩) | exact Or.inr (Or.inr ⟨by omega, by omega, Or.inr ⟨by omega, Or.inr ⟨by omega, Or.inl ⟨by omega, by omega⟩⟩⟩⟩) | exact Or.inr (Or.inr ⟨by omega, by omega, Or.inr ⟨by omega, Or.inl ⟨by omega, by omega, by omega⟩⟩⟩) | exact Or.inr (Or.inr ⟨by omega, by omega, Or.inl ⟨by omega, by omega⟩⟩) | exact Or.inr (Or.inl ⟨by omega, by omega, by omega⟩) | exact Or.inl ⟨by omega, by omega⟩) | omega) (by first | exact Lo_h6 | exact std | (unfold sumR; first | exact Or.inr (Or.inr ⟨by omega, by omega, Or.inr ⟨by omega, Or.inr ⟨by omega, Or.inr (Or.inr ⟨by omega, by omega, Or.inr ⟨by omega, by omega, by omega⟩⟩)⟩⟩⟩) | exact Or.inr (Or.inr ⟨by omega, by omega, Or.inr ⟨by omega, Or.inr ⟨by omega, Or.inr (Or.inr ⟨by omega, by omega, Or.inl ⟨by omega, by omega⟩⟩)⟩⟩⟩) | exact Or.inr (Or.inr ⟨by omega, by omega, Or.inr ⟨by omega, Or.inr ⟨by omega, Or.inr (Or.inl ⟨by omega, by omega, by omega⟩)⟩⟩⟩) | exact Or.inr (Or.inr ⟨by omega, by omega, Or.inr ⟨by omega, Or.inr ⟨by omega, Or.inl ⟨by omega, by omega⟩⟩⟩⟩) | exact Or.inr (Or.inr ⟨by omega, by omega, Or.inr ⟨by omega, Or.inl ⟨by omega, by omega, by omega⟩⟩⟩) | exact Or.inr (Or.inr ⟨by omega, by omega, Or.inl ⟨by omega, by omega⟩⟩) | exact Or.inr (Or.inl ⟨by omega, by omega, by omega⟩) | exact Or.inl ⟨by omega, by omega⟩) | omega) Ln_h6 Sp_h6 Al_h6t10 Cu_h6t11)
  ·
    have gh12 : my_fr [(4, 4), (4, 5), (4, 7), (4, 8), (4, 9), (5, 5), (5, 6), (5, 7), (5, 8), (5, 9), (32, -1), (33, -1), (34, -1), (35, -1), (37, -1)] h h12 := my_fr.tr my_fr.rf (frh12.mo rfl)
    have Ln_h12 : Ln h12 := Ln_ag (my_ag.fr frh12 rfl) n_Ln
    have Sp_h12 : Sp h12 wv := Sp_ag (my_ag.fr frh12 rfl) hwv n_Ln n_Sp
    have St5_h12 : St5 h12 := St5_ag (my_ag.fr frh12 rfl) n_Ln n_St5
    have Lo_h12 : Lo h h12 := Lo_ag (my_ag.fr frh12 rfl) n_Ln (Lo_rf)
    show wp l rho (d + 6) 62 11 [(2, 82), (9, 0), (9, 0)] [(0, v13)] h12 Q
    have ck27 := Cu_s Cu_h12t23
    rw [show cs h12 = cs h from cs_eq (fun j => my_fr.at gh12 is_92 rfl) (my_fr.at gh12 is_82 rfl)] at ck27
    rw [show h12 82 7 = (sN (cs h) (h 82 7)) from xp19] at ck27
    have cv28 := Cu_v Cu_h12t23
    rw [show cs h12 = cs h from cs_eq (fun j => my_fr.at gh12 is_92 rfl) (my_fr.at gh12 is_82 rfl)] at cv28
    rw [show h12 82 7 = (sN (cs h) (h 82 7)) from xp19] at cv28
    refine w_istore_n (ls' := [(2, 82), (0, v13), (9, 0)]) gz_62_11 gm_62 rfl rfl rfl ?_
    refine w_aload_n gz_62_12 rfl ?_
    refine v_getI (j := 9) gz_62_13 rfl is_82 rd_5 rfl (fun v29 ev29 pv29 qv29 => ?_)
    have zv29 := ev29.trans w18
    refine w_ifne (t := 28) gz_62_16 rfl (fun u30 => by exfalso; omega) (fun u30 => ?_)
    refine w_aload_n gz_62_19 rfl ?_
    refine w_ldcS gz_62_20 (by decide) ?_
    refine w_inv (k := 0) (as := [(3, ((12 : Nat) : Int))]) (r := []) (x := 82) (ls0 := [(2, 82), (3, ((12 : Nat) : Int))]) gz_62_22 gm_40 rfl is_82 rd_5 rfl rfl rfl rfl rfl (c_Reader_takeWord9_f0 (d := d) (x1 := ((12 : Nat) : Int)) (by decide) (ev29.symm.trans (by omega)) Al_h12t22 Cu_h12t23 (fun h31 frh31 w32 w33 xp34 xp35 Al_h31t36 Cu_h31t37 => ?_) (fun h38 frh38 w39 xp40 xp41 Al_h38t42 Cu_h38t43 => ?_))
    ·
      have gh31 : my_fr [(4, 4), (4, 5), (4, 7), (4, 8), (4, 9), (5, 5), (5, 6), (5, 7), (5, 8), (5, 9), (32, -1), (33, -1), (34, -1), (35, -1), (37, -1)] h h31 := my_fr.tr gh12 (frh31.mo rfl)
      have Ln_h31 : Ln h31 := Ln_ag (my_ag.fr frh31 rfl) Ln_h12
      have Sp_h31 : Sp h31 wv := Sp_ag (my_ag.fr frh31 rfl) hwv Ln_h12 Sp_h12
      have St5_h31 : St5 h31 := St5_ag (my_ag.fr frh31 rfl) Ln_h12 St5_h12
      have Lo_h31 : Lo h h31 := Lo_ag (my_ag.fr frh31 rfl) Ln_h12 Lo_h12
      show wp l rho (d + 6) 62 25 [(2, 82), (0, v13), (9, 0)] [(0, 0)] h31 Q
      rw [show wc ((12 : Nat) : Int) = 99 from by decide] at xp34
      have tE44 : cs h12 = cs h := cs_eq (fun j => my_fr.at gh12 is_92 rfl) (my_fr.at gh12 is_82 rfl)
      rw [tE44] at xp34
      have ps45 : h12 82 7 = (sN (cs h) (h 82 7)) := xp19
      rw [ps45] at xp34
      rw [ps45] at xp35
      refine w_ifne (t := 29) gz_62_25 rfl (fun u46 => by exfalso; omega) (fun u46 => ?_)
      have psR : h31 82 7 = h31 82 7 := (rfl : h31 82 7 = h31 82 7)
      have npsR : cs h31 = cs h := cs_eq (fun j => my_fr.at gh31 is_92 rfl) (my_fr.at gh31 is_82 rfl)
      have c47 := (rfl : h31 82 9 = h31 82 9)
      exact w_vret gz_62_28 gm_62 (k0 h31 (gh31) (by omega) (by omega) (by first | exact Lo_h31 | exact std | (unfold sumR; first | exact Or.inr (Or.inr ⟨by omega, by omega, Or.inr ⟨by omega, Or.inr ⟨by omega, Or.inr (Or.inr ⟨by omega, by omega, Or.inr ⟨by omega, by omega, by omega⟩⟩)⟩⟩⟩) | exact Or.inr (Or.inr ⟨by omega, by omega, Or.inr ⟨by omega, Or.inr ⟨by omega, Or.inr (Or.inr ⟨by omega, by omega, Or.inl ⟨by omega, by omega⟩⟩)⟩⟩⟩) | exact Or.inr (Or.inr ⟨by omega, by omega, Or.inr ⟨by omega, Or.inr ⟨by omega, Or.inr (Or.inl ⟨by omega, by omega, by omega⟩)⟩⟩⟩) | exact Or.inr (Or.inr ⟨by omega, by omega, Or.inr ⟨by omega, Or.inr ⟨by omega, Or.inl ⟨by omega, by omega⟩⟩⟩⟩) | exact Or.inr (Or.inr ⟨by omega, by omega, Or.inr ⟨by omega, Or.inl ⟨by omega, by omega, by omega⟩⟩⟩) | exact Or.inr (Or.inr ⟨by omega, by omega, Or.inl ⟨by omega, by omega⟩⟩) | exact Or.inr (Or.inl ⟨by omega, by omega, by omega⟩) | exact Or.inl ⟨by omega, by omega⟩) | omega) (by first | exact Lo_h31 | exact std | (unfold sumR; first | exact Or.inr (Or.inr ⟨by omega, by omega, Or.inr ⟨by omega, Or.inr ⟨by omega, Or.inr (Or.inr ⟨by omega, by omega, Or.inr ⟨by omega, by omega, by omega⟩⟩)⟩⟩⟩) | exact Or.inr (Or.inr ⟨by omega, by omega, Or.inr ⟨by omega, Or.inr ⟨by omega, Or.inr (Or.inr ⟨by omega, by omega, Or.inl ⟨by omega, by omega⟩⟩)⟩⟩⟩) | exact Or.inr (Or.inr ⟨by omega, by omega, Or.inr ⟨by omega, Or.inr ⟨by omega, Or.inr (Or.inl ⟨by omega, by omega, by omega⟩)⟩⟩⟩) | exact Or.inr (Or.inr ⟨by omega, by omega, Or.inr ⟨by omega, Or.inr ⟨by omega, Or.inl ⟨by omega, by omega⟩⟩⟩⟩) | exact Or.inr (Or.inr ⟨by omega, by omega, Or.inr ⟨by omega, Or.inl ⟨by omega, by omega, by omega⟩⟩⟩) | exact Or.inr (Or.inr ⟨by omega, by omega, Or.inl ⟨by omega, by omega⟩⟩) | exact Or.inr (Or.inl ⟨by omega, by omega, by omega⟩) | exact Or.inl ⟨by omega, by omega⟩) | omega) Ln_h31 Sp_h31 Al_h31t36 Cu_h31t37)
    ·
      have gh38 : my_fr [(4, 4), (4, 5), (4, 7), (4, 8), (4, 9), (5, 5), (5, 6), (5, 7), (5, 8), (5, 9), (32, -1), (33, -1), (34, -1), (35, -1), (37, -1)] h h38 := my_fr.tr gh12 (frh38.mo rfl)
      have Ln_h38 : Ln h38 := Ln_ag (my_ag.fr frh38 rfl) Ln_h12
      have Sp_h38 : Sp h38 wv := Sp_ag (my_ag.fr frh38 rfl) hwv Ln_h12 Sp_h12
      have St5_h38 : St5 h38 := St5_ag (my_ag.fr frh38 rfl) Ln_h12 St5_h12
      have Lo_h38 : Lo h h38 := Lo_ag (my_ag.fr frh38 rfl) Ln_h12 Lo_h12
      show wp l rho (d + 6) 62 25 [(2, 82), (0, v13), (9, 0)] [(0, 1)] h38 Q
      have tE48 : cs h12 = cs h := cs_eq (fun j => my_fr.at gh12 is_92 rfl) (my_fr.at gh12 is_82 rfl)
      rw [tE48] at xp40
      have ps49 : h12 82 7 = (sN (cs h) (h 82 7)) := xp19
      rw [ps49] at xp40
      rw [show wc ((12 : Nat) : Int) = 99 from by decide] at xp41
      rw [tE48] at xp41
      rw [ps49] at xp41
      have ck50 := Cu_s Cu_h38t43
      rw [show cs h38 = cs h from cs_eq (fun j => my_fr.at gh38 is_92 rfl) (my_fr.at gh38 is_82 rfl)] at ck50
      rw [show h38 82 7 = (sN (cs h) (((sN (cs h) (h 82 7))))) from xp40] at ck50
      have cv51 := Cu_v Cu_h38t43
      rw [show cs h38 = cs h from cs_eq (fun j => my_fr.at gh38 is_92 rfl) (my_fr.at gh38 is_82 rfl)] at cv51
      rw [show h38 82 7 = (sN (cs h) (((sN (cs h) (h 82 7))))) from xp40] at cv51
      refine w_ifne (t := 29) gz_62_25 rfl (fun u52 => ?_) (fun u52 => by exfalso; omega)
      refine w_aload_n gz_62_29 rfl ?_
      refine w_aload_n gz_62_30 rfl ?_
      refine v_getR (j := 2) gz_62_31 rfl is_82 rd_5 rfl (fun v53 ev53 tv53 => ?_)
      have zv53 : v3 = v53 := (ev53.trans ((my_fr.at frh38 is_82 rfl).trans ((my_fr.at frh12 is_82 rfl).trans ev3.symm))).symm
      subst zv53
      have ce54 : h38 82 2 = v3 := ((my_fr.at frh38 is_82 rfl).trans ((my_fr.at frh12 is_82 rfl).trans ev3.symm))
      have ce55 : h38 v3 4 = h v3 4 := ((my_fr.at frh38 tv3 rfl).trans ((my_fr.at frh12 tv3 rfl).trans (rfl : h v3 4 = h v3 4)))
      have sE37 : v3 = h 82 2 := by first | assumption | omega
      refine v_getI (j := 4) gz_62_34 rfl tv3 rd_4 rfl (fun v56 ev56 pv56 qv56 => ?_)
      have zv56 := ev56.trans ((my_fr.at frh38 tv3 rfl).trans ((my_fr.at frh12 tv3 rfl).trans ev5.symm))
      have c37 : v56 = h (h 82 2) 4 := by rw [← sE37]; omega
      refine w_inv (k := 0) (as := [(0, v56)]) (r := []) (x := 82) (ls0 := [(2, 82), (0, v56)]) gz_62_37 gm_44 rfl is_82 rd_5 rfl rfl rfl rfl rfl ?_
      refine w_aload_n gz_44_0 rfl ?_
      refine v_getI (j := 6) gz_44_1 rfl is_82 rd_5 rfl (fun v57 ev57 pv57 qv57 => ?_)
      refine w_iconst gz_44_4 (by decide) ?_
      refine w_iceq (t := 15) gz_44_5 rfl (fun u58 => ?_) (fun u58 => ?_)
      ·
        refine w_aload_n gz_44_15 rfl ?_
        refine v_getI (j := 8) gz_44_16 rfl is_82 rd_5 rfl (fun v59 ev59 pv59 qv59 => ?_)
        refine w_iload_n gz_44_19 rfl ?_
        refine w_iclt (t := 30) gz_44_20 rfl (fun u60 => ?_) (fun u60 => ?_)
        ·
          refine w_aload_n gz_44_30 rfl ?_
          refine v_getI (j := 9) gz_44_31 rfl is_82 rd_5 rfl (fun v61 ev61 pv61 qv61 => ?_)
          have zv61 := ev61.trans w39
          refine w_ifne (t := 44) gz_44_34 rfl (fun u62 => by exfalso; omega) (fun u62 => ?_)
          refine w_aload_n gz_44_37 rfl ?_
          refine v_getI (j := 8) gz_44_38 rfl is_82 rd_5 rfl (fun v63 ev63 pv63 qv63 => ?_)
          have zv63 := ev63.trans ev59.symm
          refine w_goto (t := 45) gz_44_41 rfl ?_
          refine w_iret gz_44_45 gm_44 ?_
          show wp l rho (d + 6) 62 40 [(2, 82), (0, v13), (9, 0)] [(0, v63)] h38 Q
          refine w_istore_n (ls' := [(2, 82), (0, v13), (0, v63)]) gz_62_40 gm_62 rfl rfl rfl ?_
          refine w_iload_n gz_62_41 rfl ?_
          refine w_iconst gz_62_42 (by decide) ?_
          refine w_iceq (t := 59) gz_62_43 rfl (fun u64 => by exfalso; omega) (fun u64 => ?_)
          refine w_iload_n gz_62_46 rfl ?_
          refine w_iload_n gz_62_47 rfl ?_
          refine w_icne (t := 59) gz_62_48 rfl (fun u65 => ?_) (fun u65 => ?_)
          ·
            refine w_iload_n gz_62_59 rfl ?_
            refine w_iconst gz_62_60 (by decide) ?_
            refine w_iceq (t := 84) gz_62_61 rfl (fun u66 => by exfalso; omega) (fun u66 => ?_)
            refine w_aload_n gz_62_64 rfl ?_
            refine w_inv (k := 2) (as := []) (r := []) (x := 82) (ls0 := [(2, 82), (9, 0), (9, 0)]) gz_62_65 gm_37 rfl is_82 rd_5 rfl rfl rfl rfl rfl (c_Reader_nextToken9_f0 (d := (d + 4))  (ev61.symm.trans (by omega)) Al_h38t42 (fun h67 frh67 w68 w69 w70 xp71 xp72 Al_h67t73 Cu_h67t74 => ?_))
            have gh67 : my_fr [(4, 4), (4, 5), (4, 7), (4, 8), (4, 9), (5, 5), (5, 6), (5, 7), (5, 8), (5, 9), (32, -1), (33, -1), (34, -1), (35, -1), (37, -1)] h h67 := my_fr.tr gh38 (frh67.mo rfl)
            have Ln_h67 : Ln h67 := Ln_ag (my_ag.fr frh67 rfl) Ln_h38
            have Sp_h67 : Sp h67 wv := Sp_ag (my_ag.fr frh67 rfl) hwv Ln_h38 Sp_h38
            have St5_h67 : St5 h67 := St5_ag (my_ag.fr frh67 rfl) Ln_h38 St5_h38
            have Lo_h67 : Lo h h67 := Lo_ag (my_ag.fr frh67 rfl) Ln_h38 Lo_h38
            show wp l rho (d + 6) 62 68 [(2, 82), (0, v13), (0, v63)] [] h67 Q
            have xc75 := xp71 Cu_h38t43
            have tE76 : cs h38 = cs h := cs_eq (fun j => my_fr.at gh38 is_92 rfl) (my_fr.at gh38 is_82 rfl)
            rw [tE76] at xc75
            have ps77 : h38 82 7 = (sN (cs h) (((sN (cs h) (h 82 7))))) := xp40
            rw [ps77] at xc75
            have ck78 := Cu_s Cu_h67t74
            rw [show cs h67 = cs h from cs_eq (fun j => my_fr.at gh67 is_92 rfl) (my_fr.at gh67 is_82 rfl)] at ck78
            rw [show h67 82 7 = (sN (cs h) (((sN (cs h) (((sN (cs h) (h 82 7)))))))) from xc75] at ck78
            have cv79 := Cu_v Cu_h67t74
            rw [show cs h67 = cs h from cs_eq (fun j => my_fr.at gh67 is_92 rfl) (my_fr.at gh67 is_82 rfl)] at cv79
            rw [show h67 82 7 = (sN (cs h) (((sN (cs h) (((sN (cs h) (h 82 7)))))))) from xc75] at cv79
            refine w_aload_n gz_62_68 rfl ?_
            refine w_inv (k := 0) (as := []) (r := []) (x := 82) (ls0 := [(2, 82)]) gz_62_69 gm_47 rfl is_82 rd_5 rfl rfl rfl rfl rfl (c_Reader_endsHere9_f0 (d := (d + 3))  (((my_fr.at frh67 is_82 rfl).trans ev61.symm).trans (by omega)) Al_h67t73 Cu_h67t74 (fun h80 frh80 w81 w82 xp83 xp84 Al_h80t85 Cu_h80t86 => ?_) (fun h87 frh87 w88 xp89 xp90 Al_h87t91 Cu_h87t92 => ?_))
            ·
              have gh80 : my_fr [(4, 4), (4, 5), (4, 7), (4, 8), (4, 9), (5, 5), (5, 6), (5, 7), (5, 8), (5, 9), (32, -1), (33, -1), (34, -1), (35, -1), (37, -1)] h h80 := my_fr.tr gh67 (frh80.mo rfl)
              have Ln_h80 : Ln h80 := Ln_ag (my_ag.fr frh80 rfl) Ln_h67
              have Sp_h80 : Sp h80 wv := Sp_ag (my_ag.fr frh80 rfl) hwv Ln_h67 Sp_h67
              have St5_h80 : St5 h80 := St5_ag (my_ag.fr frh80 rfl) Ln_h67 St5_h67
              have Lo_h80 : Lo h h80 := Lo_ag (my_ag.fr frh80 rfl) Ln_h67 Lo_h67
              show wp l rho (d + 6) 62 72 [(2, 82), (0, v13), (0, v63)] [(0, 0)] h80 Q
              have tE93 : cs h67 = cs h := cs_eq (fun j => my_fr.at gh67 is_92 rfl) (my_fr.at gh67 is_82 rfl)
              rw [tE93] at xp83
              have ps94 : h67 82 7 = (sN (cs h) (((sN (cs h) (((sN (cs h) (h 82 7)))))))) := xc75
              rw [ps94] at xp83
              rw [ps94] at xp84
              refine w_ifeq (t := 84) gz_62_72 rfl (fun u95 => ?_) (fun u95 => by exfalso; omega)
              have psR : h80 82 7 = h80 82 7 := (rfl : h80 82 7 = h80 82 7)
              have npsR : cs h80 = cs h := cs_eq (fun j => my_fr.at gh80 is_92 rfl) (my_fr.at gh80 is_82 rfl)
              have c96 := (rfl : h80 82 9 = h80 82 9)
              exact w_vret gz_62_84 gm_62 (k0 h80 (gh80) (by omega) (by omega) (by first | exact Lo_h80 | exact std | (unfold sumR; first | exact Or.inr (Or.inr ⟨by omega, by omega, Or.inr ⟨by omega, Or.inr ⟨by omega, Or.inr (Or.inr ⟨by omega, by omega, Or.inr ⟨by omega, by omega, by omega⟩⟩)⟩⟩⟩) | exact Or.inr (Or.inr ⟨by omega, by omega, Or.inr ⟨by omega, Or.inr ⟨by omega, Or.inr (Or.inr ⟨by omega, by omega, Or.inl ⟨by omega, by omega⟩⟩)⟩⟩⟩) | exact Or.inr (Or.inr ⟨by omega, by omega, Or.inr ⟨by omega, Or.inr ⟨by omega, Or.inr (Or.inl ⟨by omega, by omega, by omega⟩)⟩⟩⟩) | exact Or.inr (Or.inr ⟨by omega, by omega, Or.inr ⟨by omega, Or.inr ⟨by omega, Or.inl ⟨by omega, by omega⟩⟩⟩⟩) | exact Or.inr (Or.inr ⟨by omega, by omega, Or.inr ⟨by omega, Or.inl ⟨by omega, by omega, by omega⟩⟩⟩) | exact Or.inr (Or.inr ⟨by omega, by omega, Or.inl ⟨by omega, by omega⟩⟩) | exact Or.inr (Or.inl ⟨by omega, by omega, by omega⟩) | exact Or.inl ⟨by omega, by omega⟩) | omega) (by first | exact Lo_h80 | exact std | (unfold sumR; first | exact Or.inr (Or.inr ⟨by omega, by omega, Or.inr ⟨by omega, Or.inr ⟨by omega, Or.inr (Or.inr ⟨by omega, by omega, Or.inr ⟨by omega, by omega, by omega⟩⟩)⟩⟩⟩) | exact Or.inr (Or.inr ⟨by omega, by omega, Or.inr ⟨by omega, Or.inr ⟨by omega, Or.inr (Or.inr ⟨by omega, by omega, Or.inl ⟨by omega, by omega⟩⟩)⟩⟩⟩) | exact Or.inr (Or.inr ⟨by omega, by omega, Or.inr ⟨by omega, Or.inr ⟨by omega, Or.inr (Or.inl ⟨by omega, by omega, by omega⟩)⟩⟩⟩) | exact Or.inr (Or.inr ⟨by omega, by omega, Or.inr ⟨by omega, Or.inr ⟨by omega, Or.inl ⟨by omega, by omega⟩⟩⟩⟩) | exact Or.inr (Or.inr ⟨by omega, by omega, Or.inr ⟨by omega, Or.inl ⟨by omega, by omega, by omega⟩⟩⟩) | exact Or.inr (Or.inr ⟨by omega, by omega, Or.inl ⟨by omega, by omega⟩⟩) | exact Or.inr (Or.inl ⟨by omega, by omega, by omega⟩) | exact Or.inl ⟨by omega, by omega⟩) | omega) Ln_h80 Sp_h80 Al_h80t85 Cu_h80t86)
            ·
              have gh87 : my_fr [(4, 4), (4, 5), (4, 7), (4, 8), (4, 9), (5, 5), (5, 6), (5, 7), (5, 8), (5, 9), (32, -1), (33, -1), (34, -1), (35, -1), (37, -1)] h h87 := my_fr.tr gh67 (frh87.mo rfl)
              have Ln_h87 : Ln h87 := Ln_ag (my_ag.fr frh87 rfl) Ln_h67
              have Sp_h87 : Sp h87 wv := Sp_ag (my_ag.fr frh87 rfl) hwv Ln_h67 Sp_h67
              have St5_h87 : St5 h87 := St5_ag (my_ag.fr frh87 rfl) Ln_h67 St5_h67
              have Lo_h87 : Lo h h87 := Lo_ag (my_ag.fr frh87 rfl) Ln_h67 Lo_h67
              show wp l rho (d + 6) 62 72 [(2, 82), (0, v13), (0, v63)] [(0, 1)] h87 Q
              have tE97 : cs h67 = cs h := cs_eq (fun j => my_fr.at gh67 is_92 rfl) (my_fr.at gh67 is_82 rfl)
              rw [tE97] at xp89
              have ps98 : h67 82 7 = (sN (cs h) (((sN (cs h) (((sN (cs h) (h 82 7)))))))) := xc75
              rw [ps98] at xp89
              rw [tE97] at xp90
              rw [ps98] at xp90
              have ck99 := Cu_s Cu_h87t92
              rw [show cs h87 = cs h from cs_eq (fun j => my_fr.at gh87 is_92 rfl) (my_fr.at gh87 is_82 rfl)] at ck99
              rw [show h87 82 7 = (sN (cs h) (((sN (cs h) (((sN (cs h) (((sN (cs h) (h 82 7))))))))))) from xp89] at ck99
              have cv100 := Cu_v Cu_h87t92
              rw [show cs h87 = cs h from cs_eq (fun j => my_fr.at gh87 is_92 rfl) (my_fr.at gh87 is_82 rfl)] at cv100
              rw [show h87 82 7 = (sN (cs h) (((sN (cs h) (((sN (cs h) (((sN (cs h) (h 82 7))))))))))) from xp89] at cv100
              refine w_ifeq (t := 84) gz_62_72 rfl (fun u101 => by exfalso; omega) (fun u101 => ?_)
              refine w_aload_n gz_62_75 rfl ?_
              refine v_getR (j := 2) gz_62_76 rfl is_82 rd_5 rfl (fun v102 ev102 tv102 => ?_)
              have zv102 : v3 = v102 := (ev102.trans ((my_fr.at frh87 is_82 rfl).trans ((my_fr.at frh67 is_82 rfl).trans ((my_fr.at frh38 is_82 rfl).trans ((my_fr.at frh12 is_82 rfl).trans ev3.symm))))).symm
              subst zv102
              refine w_iload_n gz_62_79 rfl ?_
              refine w_iload_n gz_62_80 rfl ?_
              have ce103 : h87 82 2 = v3 := ((my_fr.at frh87 is_82 rfl).trans ((my_fr.at frh67 is_82 rfl).trans ((my_fr.at frh38 is_82 rfl).trans ((my_fr.at frh12 is_82 rfl).trans ev3.symm))))
              have s5a := St5_h87
              have s5e : v3 = h87 82 2 := by first | assumption | omega
              unfold St5 at s5a
              rw [← s5e] at s5a
              have ce104 : h87 v3 1 = h v3 1 := ((my_fr.at frh87 tv3 rfl).trans ((my_fr.at frh67 tv3 rfl).trans ((my_fr.at frh38 tv3 rfl).trans ((my_fr.at frh12 tv3 rfl).trans (rfl : h v3 1 = h v3 1)))))
              have ce105 : h87 v3 3 = h v3 3 := ((my_fr.at frh87 tv3 rfl).trans ((my_fr.at frh67 tv3 rfl).trans ((my_fr.at frh38 tv3 rfl).trans ((my_fr.at frh12 tv3 rfl).trans (rfl : h v3 3 = h v3 3)))))
              have ce106 : h87 v3 4 = h v3 4 := ((my_fr.at frh87 tv3 rfl).trans ((my_fr.at frh67 tv3 rfl).trans ((my_fr.at frh38 tv3 rfl).trans ((my_fr.at frh12 tv3 rfl).trans (rfl : h v3 4 = h v3 4)))))
              have ce107 : h87 v3 9 = h v3 9 := ((my_fr.at frh87 tv3 rfl).trans ((my_fr.at frh67 tv3 rfl).trans ((my_fr.at frh38 tv3 rfl).trans ((my_fr.at frh12 tv3 rfl).trans (rfl : h v3 9 = h v3 9)))))
              have sE : v3 = h 82 2 := by first | assumption | omega
              have eS1 : h87 v3 1 = h v3 1 := by omega
              have eS3 : h87 v3 3 = h v3 3 := by omega
              have eS4 : h87 v3 4 = h v3 4 := by omega
              have eS9 : h87 v3 9 = h v3 9 := by omega
              refine w_inv (k := 0) (as := [(0, v63), (0, v13)]) (r := []) (x := v3) (ls0 := [(2, v3), (0, v13), (0, v63)]) gz_62_81 gm_63 rfl tv3 rd_4 rfl rfl rfl rfl rfl (c_Lens_addSum (d := (d + 4)) (x0 := v3) (x1 := v13) (x2 := v63) tv3 (by omega) (by omega) (by omega) (by omega) (by first | assumption | exact no_such_saying | exact Fp_told (by omega) (by omega) | omega | (subst_vars; omega) | omega) (fun h108 frh108 fxh108 w109 w110 w111 w112 xp113 => ?_))
              have gh108 : my_fr [(4, 4), (4, 5), (4, 7), (4, 8), (4, 9), (5, 5), (5, 6), (5, 7), (5, 8), (5, 9), (32, -1), (33, -1), (34, -1), (35, -1), (37, -1)] h h108 := my_fr.tr gh87 (frh108.mo rfl)
              have Ln_h108 : Ln h108 := Ln_fx fxh108 (by first | assumption | omega) Ln_h87
              have Lo_h108 : Lo h h108 := Lo_fx fxh108 (by first | assumption | omega) Ln_h87 Lo_h87
              have Al_h108 : Al h108 := Al_ag (my_ag.fr frh108 rfl) Al_h87t91
              have Cu_h108 : Cu h108 := Cu_ag (my_ag.fr frh108 rfl) Cu_h87t92
              show wp l rho (d + 6) 62 84 [(2, 82), (0, v13), (0, v63)] [] h108 Q
              have Sp_h108t114 : Sp h108 wv := Sp_add fxh108 (by first | assumption | omega) hwv Ln_h87 Sp_h87 xp113 (by have := St5_h87.1; omega) (by omega) (by omega)
              have ce115 : h108 82 2 = v3 := ((my_fr.at frh108 is_82 rfl).trans ((my_fr.at frh87 is_82 rfl).trans ((my_fr.at frh67 is_82 rfl).trans ((my_fr.at frh38 is_82 rfl).trans ((my_fr.at frh12 is_82 rfl).trans ev3.symm)))))
              have std := Std_add xp113 sE (by omega) eS3 eS4 eS9 eS1
              have psR : h108 82 7 = (sN (cs h) (((sN (cs h) (((sN (cs h) (((sN (cs h) (h 82 7))))))))))) := ((my_fr.at frh108 is_82 rfl).trans xp89)
              have npsR : cs h108 = cs h := cs_eq (fun j => my_fr.at gh108 is_92 rfl) (my_fr.at gh108 is_82 rfl)
              have c116 := ((my_fr.at frh108 is_82 rfl).trans w88)
              exact w_vret gz_62_84 gm_62 (k1 h108 (gh108) (by omega) (by first | exact Lo_h108 | exact std | (unfold sumR; first | exact Or.inr (Or.inr ⟨by omega, by omega, Or.inr ⟨by omega, Or.inr ⟨by omega, Or.inr (Or.inr ⟨by omega, by omega, Or.inr ⟨by omega, by omega, by omega⟩⟩)⟩⟩⟩) | exact Or.inr (Or.inr ⟨by omega, by omega, Or.inr ⟨by omega, Or.inr ⟨by omega, Or.inr (Or.inr ⟨by omega, by omega, Or.inl ⟨by omega, by omega⟩⟩)⟩⟩⟩) | exact Or.inr (Or.inr ⟨by omega, by omega, Or.inr ⟨by omega, Or.inr ⟨by omega, Or.inr (Or.inl ⟨by omega, by omega, by omega⟩)⟩⟩⟩) | exact Or.inr (Or.inr ⟨by omega, by omega, Or.inr ⟨by omega, Or.inr ⟨by omega, Or.inl ⟨by omega, by omega⟩⟩⟩⟩) | exact Or.inr (Or.inr ⟨by omega, by omega, Or.inr ⟨by omega, Or.inl ⟨by omega, by omega, by omega⟩⟩⟩) | exact Or.inr (Or.inr ⟨by omega, by omega, Or.inl ⟨by omega, by omega⟩⟩) | exact Or.inr (Or.inl ⟨by omega, by omega, by omega⟩) | exact Or.inl ⟨by omega, by omega⟩) | omega) (by first | exact Lo_h108 | exact std | (unfold sumR; first | exact Or.inr (Or.inr ⟨by omega, by omega, Or.inr ⟨by omega, Or.inr ⟨by omega, Or.inr (Or.inr ⟨by omega, by omega, Or.inr ⟨by omega, by omega, by omega⟩⟩)⟩⟩⟩) | exact Or.inr (Or.inr ⟨by omega, by omega, Or.inr ⟨by omega, Or.inr ⟨by omega, Or.inr (Or.inr ⟨by omega, by omega, Or.inl ⟨by omega, by omega⟩⟩)⟩⟩⟩) | exact Or.inr (Or.inr ⟨by omega, by omega, Or.inr ⟨by omega, Or.inr ⟨by omega, Or.inr (Or.inl ⟨by omega, by omega, by omega⟩)⟩⟩⟩) | exact Or.inr (Or.inr ⟨by omega, by omega, Or.inr ⟨by omega, Or.inr ⟨by omega, Or.inl ⟨by omega, by omega⟩⟩⟩⟩) | exact Or.inr (Or.inr ⟨by omega, by omega, Or.inr ⟨by omega, Or.inl ⟨by omega, by omega, by omega⟩⟩⟩) | exact Or.inr (Or.inr ⟨by omega, by omega, Or.inl ⟨by omega, by omega⟩⟩) | exact Or.inr (Or.inl ⟨by omega, by omega, by omega⟩) | exact Or.inl ⟨by omega, by omega⟩) | omega) (by first | exact Lo_h108 | exact std | (unfold sumR; first | exact Or.inr (Or.inr ⟨by omega, by omega, Or.inr ⟨by omega, Or.inr ⟨by omega, Or.inr (Or.inr ⟨by omega, by omega, Or.inr ⟨by omega, by omega, by omega⟩⟩)⟩⟩⟩) | exact Or.inr (Or.inr ⟨by omega, by omega, Or.inr ⟨by omega, Or.inr ⟨by omega, Or.inr (Or.inr ⟨by omega, by omega, Or.inl ⟨by omega, by omega⟩⟩)⟩⟩⟩) | exact Or.inr (Or.inr ⟨by omega, by omega, Or.inr ⟨by omega, Or.inr ⟨by omega, Or.inr (Or.inl ⟨by omega, by omega, by omega⟩)⟩⟩⟩) | exact Or.inr (Or.inr ⟨by omega, by omega, Or.inr ⟨by omega, Or.inr ⟨by omega, Or.inl ⟨by omega, by omega⟩⟩⟩⟩) | exact Or.inr (Or.inr ⟨by omega, by omega, Or.inr ⟨by omega, Or.inl ⟨by omega, by omega, by omega⟩⟩⟩) | exact Or.inr (Or.inr ⟨by omega, by omega, Or.inl ⟨by omega, by omega⟩⟩) | exact Or.inr (Or.inl ⟨by omega, by omega, by omega⟩) | exact Or.inl ⟨by omega, by omega⟩) | omega) Ln_h108 Sp_h108t114 Al_h108 Cu_h108)
          ·
            refine w_aload_n gz_62_51 rfl ?_
            refine w_iconst gz_62_52 (by decide) ?_
            refine w_inv (k := 0) (as := [(0, 3)]) (r := []) (x := 82) (ls0 := [(2, 82), (0, 3)]) gz_62_53 gm_42 rfl is_82 rd_5 rfl rfl rfl rfl rfl ?_
            refine w_aload_n gz_42_0 rfl ?_
            refine v_getI (j := 9) gz_42_1 rfl is_82 rd_5 rfl (fun v117 ev117 pv117 qv117 => ?_)
            have zv117 := ev117.trans ev61.symm
            refine w_ifne (t := 20) gz_42_4 rfl (fun u118 => by exfalso; omega) (fun u118 => ?_)
            refine w_aload_n gz_42_7 rfl ?_
            refine w_iload_n gz_42_8 rfl ?_
            refine w_bipush gz_42_9 (by decide) ?_
            refine w_aload_n gz_42_11 rfl ?_
            refine v_getI (j := 7) gz_42_12 rfl is_82 rd_5 rfl (fun v119 ev119 pv119 qv119 => ?_)
            refine w_imul gz_42_15 ⟨by omega, by omega⟩ ?_
            refine w_iadd gz_42_16 ⟨by omega, by omega⟩ ?_
            refine v_putI (j := 9) gz_42_17 rfl is_82 rd_5 rfl (by omega) (by omega) rfl (fun h120 fh120 => ?_)
            have gh120 : my_fr [(4, 4), (4, 5), (4, 7), (4, 8), (4, 9), (5, 5), (5, 6), (5, 7), (5, 8), (5, 9), (32, -1), (33, -1), (34, -1), (35, -1), (37, -1)] h h120 := my_fr.up gh38 is_82 fh120 rfl
            have Ln_h120 : Ln h120 := Ln_ag (my_ag.up fh120 is_82 rfl) Ln_h38
            have Sp_h120 : Sp h120 wv := Sp_ag (my_ag.up fh120 is_82 rfl) hwv Ln_h38 Sp_h38
            have St5_h120 : St5 h120 := St5_ag (my_ag.up fh120 is_82 rfl) Ln_h38 St5_h38
            have Lo_h120 : Lo h h120 := Lo_ag (my_ag.up fh120 is_82 rfl) Ln_h38 Lo_h38
            have Al_h120 : Al h120 := Al_ag (my_ag.up fh120 is_82 rfl) Al_h38t42
            have Cu_h120 : Cu h120 := Cu_ag (my_ag.up fh120 is_82 rfl) Cu_h38t43
            refine w_vret gz_42_20 gm_42 ?_
            show wp l rho (d + 6) 62 56 [(2, 82), (0, v13), (0, v63)] [] h120 Q
            refine w_goto (t := 84) gz_62_56 rfl ?_
            have psR : h120 82 7 = (sN (cs h) (((sN (cs h) (h 82 7))))) := ((my_up_fld fh120 (by decide)).trans xp40)
            have npsR : cs h120 = cs h := cs_eq (fun j => my_fr.at gh120 is_92 rfl) (my_fr.at gh120 is_82 rfl)
            have c121 := (my_up_self fh120)
            exact w_vret gz_62_84 gm_62 (k0 h120 (gh120) (by omega) (by omega) (by first | exact Lo_h120 | exact std | (unfold sumR; first | exact Or.inr (Or.inr ⟨by omega, by omega, Or.inr ⟨by omega, Or.inr ⟨by omega, Or.inr (Or.inr ⟨by omega, by omega, Or.inr ⟨by omega, by omega, by omega⟩⟩)⟩⟩⟩) | exact Or.inr (Or.inr ⟨by omega, by omega, Or.inr ⟨by omega, Or.inr ⟨by omega, Or.inr (Or.inr ⟨by omega, by omega, Or.inl ⟨by omega, by omega⟩⟩)⟩⟩⟩) | exact Or.inr (Or.inr ⟨by omega, by omega, Or.inr ⟨by omega, Or.inr ⟨by omega, Or.inr (Or.inl ⟨by omega, by omega, by omega⟩)⟩⟩⟩) | exact Or.inr (Or.inr ⟨by omega, by omega, Or.inr ⟨by omega, Or.inr ⟨by omega, Or.inl ⟨by omega, by omega⟩⟩⟩⟩) | exact Or.inr (Or.inr ⟨by omega, by omega, Or.inr ⟨by omega, Or.inl ⟨by omega, by omega, by omega⟩⟩⟩) | exact Or.inr (Or.inr ⟨by omega, by omega, Or.inl ⟨by omega, by omega⟩⟩) | exact Or.inr (Or.inl ⟨by omega, by omega, by omega⟩) | exact Or.inl ⟨by omega, by omega⟩) | omega) (by first | exact Lo_h120 | exact std | (unfold sumR; first | exact Or.inr (Or.inr ⟨by omega, by omega, Or.inr ⟨by omega, Or.inr ⟨by omega, Or.inr (Or.inr ⟨by omega, by omega, Or.inr ⟨by omega, by omega, by omega⟩⟩)⟩⟩⟩) | exact Or.inr (Or.inr ⟨by omega, by omega, Or.inr ⟨by omega, Or.inr ⟨by omega, Or.inr (Or.inr ⟨by omega, by omega, Or.inl ⟨by omega, by omega⟩⟩)⟩⟩⟩) | exact Or.inr (Or.inr ⟨by omega, by omega, Or.inr ⟨by omega, Or.inr ⟨by omega, Or.inr (Or.inl ⟨by omega, by omega, by omega⟩)⟩⟩⟩) | exact Or.inr (Or.inr ⟨by omega, by omega, Or.inr ⟨by omega, Or.inr ⟨by omega, Or.inl ⟨by omega, by omega⟩⟩⟩⟩) | exact Or.inr (Or.inr ⟨by omega, by omega, Or.inr ⟨by omega, Or.inl ⟨by omega, by omega, by omega⟩⟩⟩) | exact Or.inr (Or.inr ⟨by omega, by omega, Or.inl ⟨by omega, by omega⟩⟩) | exact Or.inr (Or.inl ⟨by omega, by omega, by omega⟩) | exact Or.inl ⟨by omega, by omega⟩) | omega) Ln_h120 Sp_h120 Al_h120 Cu_h120)
        ·
          refine w_aload_n gz_44_23 rfl ?_
          refine w_iconst gz_44_24 (by decide) ?_
          refine w_inv (k := 0) (as := [(0, 4)]) (r := []) (x := 82) (ls0 := [(2, 82), (0, 4)]) gz_44_25 gm_42 rfl is_82 rd_5 rfl rfl rfl rfl rfl ?_
          refine w_aload_n gz_42_0 rfl ?_
          refine v_getI (j := 9) gz_42_1 rfl is_82 rd_5 rfl (fun v122 ev122 pv122 qv122 => ?_)
          have zv122 := ev122.trans w39
          refine w_ifne (t := 20) gz_42_4 rfl (fun u123 => by exfalso; omega) (fun u123 => ?_)
          refine w_aload_n gz_42_7 rfl ?_
          refine w_iload_n gz_42_8 rfl ?_
          refine w_bipush gz_42_9 (by decide) ?_
          refine w_aload_n gz_42_11 rfl ?_
          refine v_getI (j := 7) gz_42_12 rfl is_82 rd_5 rfl (fun v124 ev124 pv124 qv124 => ?_)
          refine w_imul gz_42_15 ⟨by omega, by omega⟩ ?_
          refine w_iadd gz_42_16 ⟨by omega, by omega⟩ ?_
          refine v_putI (j := 9) gz_42_17 rfl is_82 rd_5 rfl (by omega) (by omega) rfl (fun h125 fh125 => ?_)
          have gh125 : my_fr [(4, 4), (4, 5), (4, 7), (4, 8), (4, 9), (5, 5), (5, 6), (5, 7), (5, 8), (5, 9), (32, -1), (33, -1), (34, -1), (35, -1), (37, -1)] h h125 := my_fr.up gh38 is_82 fh125 rfl
          have Ln_h125 : Ln h125 := Ln_ag (my_ag.up fh125 is_82 rfl) Ln_h38
          have Sp_h125 : Sp h125 wv := Sp_ag (my_ag.up fh125 is_82 rfl) hwv Ln_h38 Sp_h38
          have St5_h125 : St5 h125 := St5_ag (my_ag.up fh125 is_82 rfl) Ln_h38 St5_h38
          have Lo_h125 : Lo h h125 := Lo_ag (my_ag.up fh125 is_82 rfl) Ln_h38 Lo_h38
          have Al_h125 : Al h125 := Al_ag (my_ag.up fh125 is_82 rfl) Al_h38t42
          have Cu_h125 : Cu h125 := Cu_ag (my_ag.up fh125 is_82 rfl) Cu_h38t43
          refine w_vret gz_42_20 gm_42 ?_
          show wp l rho (d + 5) 44 28 [(2, 82), (0, v56)] [] h125 _
          refine w_iconst gz_44_28 (by decide) ?_
          refine w_iret gz_44_29 gm_44 ?_
          show wp l rho (d + 6) 62 40 [(2, 82), (0, v13), (9, 0)] [(0, (-1))] h125 Q
          refine w_istore_n (ls' := [(2, 82), (0, v13), (0, (-1))]) gz_62_40 gm_62 rfl rfl rfl ?_
          refine w_iload_n gz_62_41 rfl ?_
          refine w_iconst gz_62_42 (by decide) ?_
          refine w_iceq (t := 59) gz_62_43 rfl (fun u126 => ?_) (fun u126 => by exfalso; omega)
          refine w_iload_n gz_62_59 rfl ?_
          refine w_iconst gz_62_60 (by decide) ?_
          refine w_iceq (t := 84) gz_62_61 rfl (fun u127 => ?_) (fun u127 => by exfalso; omega)
          have psR : h125 82 7 = (sN (cs h) (((sN (cs h) (h 82 7))))) := ((my_up_fld fh125 (by decide)).trans xp40)
          have npsR : cs h125 = cs h := cs_eq (fun j => my_fr.at gh125 is_92 rfl) (my_fr.at gh125 is_82 rfl)
          have c128 := (my_up_self fh125)
          exact w_vret gz_62_84 gm_62 (k0 h125 (gh125) (by omega) (by omega) (by first | exact Lo_h125 | exact std | (unfold sumR; first | exact Or.inr (Or.inr ⟨by omega, by omega, Or.inr ⟨by omega, Or.inr ⟨by omega, Or.inr (Or.inr ⟨by omega, by omega, Or.inr ⟨by omega, by omega, by omega⟩⟩)⟩⟩⟩) | exact Or.inr (Or.inr ⟨by omega, by omega, Or.inr ⟨by omega, Or.inr ⟨by omega, Or.inr (Or.inr ⟨by omega, by omega, Or.inl ⟨by omega, by omega⟩⟩)⟩⟩⟩) | exact Or.inr (Or.inr ⟨by omega, by omega, Or.inr ⟨by omega, Or.inr ⟨by omega, Or.inr (Or.inl ⟨by omega, by omega, by omega⟩)⟩⟩⟩) | exact Or.inr (Or.inr ⟨by omega, by omega, Or.inr ⟨by omega, Or.inr ⟨by omega, Or.inl ⟨by omega, by omega⟩⟩⟩⟩) | exact Or.inr (Or.inr ⟨by omega, by omega, Or.inr ⟨by omega, Or.inl ⟨by omega, by omega, by omega⟩⟩⟩) | exact Or.inr (Or.inr ⟨by omega, by omega, Or.inl ⟨by omega, by omega⟩⟩) | exact Or.inr (Or.inl ⟨by omega, by omega, by omega⟩) | exact Or.inl ⟨by omega, by omega⟩) | omega) (by first | exact Lo_h125 | exact std | (unfold sumR; first | exact Or.inr (Or.inr ⟨by omega, by omega, Or.inr ⟨by omega, Or.inr ⟨by omega, Or.inr (Or.inr ⟨by omega, by omega, Or.inr ⟨by omega, by omega, by omega⟩⟩)⟩⟩⟩) | exact Or.inr (Or.inr ⟨by omega, by omega, Or.inr ⟨by omega, Or.inr ⟨by omega, Or.inr (Or.inr ⟨by omega, by omega, Or.inl ⟨by omega, by omega⟩⟩)⟩⟩⟩) | exact Or.inr (Or.inr ⟨by omega, by omega, Or.inr ⟨by omega, Or.inr ⟨by omega, Or.inr (Or.inl ⟨by omega, by omega, by omega⟩)⟩⟩⟩) | exact Or.inr (Or.inr ⟨by omega, by omega, Or.inr ⟨by omega, Or.inr ⟨by omega, Or.inl ⟨by omega, by omega⟩⟩⟩⟩) | exact Or.inr (Or.inr ⟨by omega, by omega, Or.inr ⟨by omega, Or.inl ⟨by omega, by omega, by omega⟩⟩⟩) | exact Or.inr (Or.inr ⟨by omega, by omega, Or.inl ⟨by omega, by omega⟩⟩) | exact Or.inr (Or.inl ⟨by omega, by omega, by omega⟩) | exact Or.inl ⟨by omega, by omega⟩) | omega) Ln_h125 Sp_h125 Al_h125 Cu_h125)
      ·
        refine w_aload_n gz_44_8 rfl ?_
        refine w_iconst gz_44_9 (by decide) ?_
        refine w_inv (k := 0) (as := [(0, 1)]) (r := []) (x := 82) (ls0 := [(2, 82), (0, 1)]) gz_44_10 gm_42 rfl is_82 rd_5 rfl rfl rfl rfl rfl ?_
        refine w_aload_n gz_42_0 rfl ?_
        refine v_getI (j := 9) gz_42_1 rfl is_82 rd_5 rfl (fun v129 ev129 pv129 qv129 => ?_)
        have zv129 := ev129.trans w39
        refine w_ifne (t := 20) gz_42_4 rfl (fun u130 => by exfalso; omega) (fun u130 => ?_)
        refine w_aload_n gz_42_7 rfl ?_
        refine w_iload_n gz_42_8 rfl ?_
        refine w_bipush gz_42_9 (by decide) ?_
        refine w_aload_n gz_42_11 rfl ?_
        refine v_getI (j := 7) gz_42_12 rfl is_82 rd_5 rfl (fun v131 ev131 pv131 qv131 => ?_)
        refine w_imul gz_42_15 ⟨by omega, by omega⟩ ?_
        refine w_iadd gz_42_16 ⟨by omega, by omega⟩ ?_
        refine v_putI (j := 9) gz_42_17 rfl is_82 rd_5 rfl (by omega) (by omega) rfl (fun h132 fh132 => ?_)
        have gh132 : my_fr [(4, 4), (4, 5), (4, 7), (4, 8), (4, 9), (5, 5), (5, 6), (5, 7), (5, 8), (5, 9), (32, -1), (33, -1), (34, -1), (35, -1), (37, -1)] h h132 := my_fr.up gh38 is_82 fh132 rfl
        have Ln_h132 : Ln h132 := Ln_ag (my_ag.up fh132 is_82 rfl) Ln_h38
        have Sp_h132 : Sp h132 wv := Sp_ag (my_ag.up fh132 is_82 rfl) hwv Ln_h38 Sp_h38
        have St5_h132 : St5 h132 := St5_ag (my_ag.up fh132 is_82 rfl) Ln_h38 St5_h38
        have Lo_h132 : Lo h h132 := Lo_ag (my_ag.up fh132 is_82 rfl) Ln_h38 Lo_h38
        have Al_h132 : Al h132 := Al_ag (my_ag.up fh132 is_82 rfl) Al_h38t42
        have Cu_h132 : Cu h132 := Cu_ag (my_ag.up fh132 is_82 rfl) Cu_h38t43
        refine w_vret gz_42_20 gm_42 ?_
        show wp l rho (d + 5) 44 13 [(2, 82), (0, v56)] [] h132 _
        refine w_iconst gz_44_13 (by decide) ?_
        refine w_iret gz_44_14 gm_44 ?_
        show wp l rho (d + 6) 62 40 [(2, 82), (0, v13), (9, 0)] [(0, (-1))] h132 Q
        refine w_istore_n (ls' := [(2, 82), (0, v13), (0, (-1))]) gz_62_40 gm_62 rfl rfl rfl ?_
        refine w_iload_n gz_62_41 rfl ?_
        refine w_iconst gz_62_42 (by decide) ?_
        refine w_iceq (t := 59) gz_62_43 rfl (fun u133 => ?_) (fun u133 => by exfalso; omega)
        refine w_iload_n gz_62_59 rfl ?_
        refine w_iconst gz_62_60 (by decide) ?_
        refine w_iceq (t := 84) gz_62_61 rfl (fun u134 => ?_) (fun u134 => by exfalso; omega)
        have psR : h132 82 7 = (sN (cs h) (((sN (cs h) (h 82 7))))) := ((my_up_fld fh132 (by decide)).trans xp40)
        have npsR : cs h132 = cs h := cs_eq (fun j => my_fr.at gh132 is_92 rfl) (my_fr.at gh132 is_82 rfl)
        have c135 := (my_up_self fh132)
        exact w_vret gz_62_84 gm_62 (k0 h132 (gh132) (by omega) (by omega) (by first | exact Lo_h132 | exact std | (unfold sumR; first | exact Or.inr (Or.inr ⟨by omega, by omega, Or.inr ⟨by omega, Or.inr ⟨by omega, Or.inr (Or.inr ⟨by omega, by omega, Or.inr ⟨by omega, by omega, by omega⟩⟩)⟩⟩⟩) | exact Or.inr (Or.inr ⟨by omega, by omega, Or.inr ⟨by omega, Or.inr ⟨by omega, Or.inr (Or.inr ⟨by omega, by omega, Or.inl ⟨by omega, by omega⟩⟩)⟩⟩⟩) | exact Or.inr (Or.inr ⟨by omega, by omega, Or.inr ⟨by omega, Or.inr ⟨by omega, Or.inr (Or.inl ⟨by omega, by omega, by omega⟩)⟩⟩⟩) | exact Or.inr (Or.inr ⟨by omega, by omega, Or.inr ⟨by omega, Or.inr ⟨by omega, Or.inl ⟨by omega, by omega⟩⟩⟩⟩) | exact Or.inr (Or.inr ⟨by omega, by omega, Or.inr ⟨by omega, Or.inl ⟨by omega, by omega, by omega⟩⟩⟩) | exact Or.inr (Or.inr ⟨by omega, by omega, Or.inl ⟨by omega, by omega⟩⟩) | exact Or.inr (Or.inl ⟨by omega, by omega, by omega⟩) | exact Or.inl ⟨by omega, by omega⟩) | omega) (by first | exact Lo_h132 | exact std | (unfold sumR; first | exact Or.inr (Or.inr ⟨by omega, by omega, Or.inr ⟨by omega, Or.inr ⟨by omega, Or.inr (Or.inr ⟨by omega, by omega, Or.inr ⟨by omega, by omega, by omega⟩⟩)⟩⟩⟩) | exact Or.inr (Or.inr ⟨by omega, by omega, Or.inr ⟨by omega, Or.inr ⟨by omega, Or.inr (Or.inr ⟨by omega, by omega, Or.inl ⟨by omega, by omega⟩⟩)⟩⟩⟩) | exact Or.inr (Or.inr ⟨by omega, by omega, Or.inr ⟨by omega, Or.inr ⟨by omega, Or.inr (Or.inl ⟨by omega, by omega, by omega⟩)⟩⟩⟩) | exact Or.inr (Or.inr ⟨by omega, by omega, Or.inr ⟨by omega, Or.inr ⟨by omega, Or.inl ⟨by omega, by omega⟩⟩⟩⟩) | exact Or.inr (Or.inr ⟨by omega, by omega, Or.inr ⟨by omega, Or.inl ⟨by omega, by omega, by omega⟩⟩⟩) | exact Or.inr (Or.inr ⟨by omega, by omega, Or.inl ⟨by omega, by omega⟩⟩) | exact Or.inr (Or.inl ⟨by omega, by omega, by omega⟩) | exact Or.inl ⟨by omega, by omega⟩) | omega) Ln_h132 Sp_h132 Al_h132 Cu_h132)
end MYNReader_readFew9_f0
