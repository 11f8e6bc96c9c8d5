/-! contracts, printed by wip/gen/gy.py -/
section MYNReader_readFew_f0
theorem c_Reader_readFew_f0 {l : Launch} {rho : Nat → Int32} {d : Nat} {h : my_H} {Q : my_H → my_V → Prop} {wv : Int} (cf : h 82 9 = 0) (hwv : wv ≤ 5) (hwv0 : 0 ≤ wv) (n_Ln : Ln h) (n_Sp : Sp h wv) (n_St5 : St5 h) (k0 : ∀ (h' : my_H), my_fr [(4, 4), (4, 5), (4, 9), (5, 5), (5, 6), (5, 7), (5, 8), (5, 9), (32, -1), (33, -1), (34, -1), (35, -1), (36, -1), (37, -1), (39, -1)] h h' → 1 ≤ h' 82 9 → h' 82 9 ≤ 16004 → Ln h' → Sp h' wv → Q h' (9, 0)) (k1 : ∀ (h' : my_H), my_fr [(4, 4), (4, 5), (4, 9), (5, 5), (5, 6), (5, 7), (5, 8), (5, 9), (32, -1), (33, -1), (34, -1), (35, -1), (36, -1), (37, -1), (39, -1)] h h' → h' 82 9 = 0 → Ln h' → Sp h' wv → Q h' (9, 0)) : wp l rho (d + 2) 56 0 [(2, 82), (9, 0), (9, 0)] [] h Q := by
  have J2_0 : ∀ (n : Nat) (p2_0 : Int) (h2_0 : my_H), my_fr [(4, 4), (4, 5), (4, 9), (5, 5), (5, 6), (5, 7), (5, 8), (5, 9), (32, -1), (33, -1), (34, -1), (35, -1), (36, -1), (37, -1), (39, -1)] h h2_0 → 0 ≤ p2_0 → p2_0 ≤ 8 → h2_0 82 9 = 0 → Ln h2_0 → Sp h2_0 wv → St5 h2_0 → Pk h2_0 p2_0 → 9 - p2_0 ≤ (n : Int) → wp l rho (d + 2) 56 2 [(2, 82), (0, p2_0), (9, 0)] [] h2_0 Q := by
    intro n
    induction n with
    | zero => intro p2_0 h2_0 gh_2_0 q0_2_0 q1_2_0 c82_9_2_0 n_Ln_2_0 n_Sp_2_0 n_St5_2_0 n_Pk_2_0 hm_2_0; exfalso; omega
    | succ n ih_2_0 =>
      intro p2_0 h2_0 gh_2_0 q0_2_0 q1_2_0 c82_9_2_0 n_Ln_2_0 n_Sp_2_0 n_St5_2_0 n_Pk_2_0 hm_2_0
      refine w_aload_n gz_56_2 rfl ?_
      refine w_aload_n gz_56_3 rfl ?_
      refine v_getR (j := 2) gz_56_4 rfl is_82 rd_5 rfl (fun v1 ev1 tv1 => ?_)
      refine v_getI (j := 4) gz_56_7 rfl tv1 rd_4 rfl (fun v2 ev2 pv2 qv2 => ?_)
      refine w_inv (k := 0) (as := [(0, v2)]) (r := []) (x := 82) (ls0 := [(2, 82), (0, v2)]) gz_56_10 gm_44 rfl is_82 rd_5 rfl rfl rfl rfl rfl ?_
      refine w_aload_n gz_44_0 rfl ?_
      refine v_getI (j := 6) gz_44_1 rfl is_82 rd_5 rfl (fun v3 ev3 pv3 qv3 => ?_)
      refine w_iconst gz_44_4 (by decide) ?_
      refine w_iceq (t := 15) gz_44_5 rfl (fun u4 => ?_) (fun u4 => ?_)
      ·
        refine w_aload_n gz_44_15 rfl ?_
        refine v_getI (j := 8) gz_44_16 rfl is_82 rd_5 rfl (fun v5 ev5 pv5 qv5 => ?_)
        refine w_iload_n gz_44_19 rfl ?_
        refine w_iclt (t := 30) gz_44_20 rfl (fun u6 => ?_) (fun u6 => ?_)
        ·
          refine w_aload_n gz_44_30 rfl ?_
          refine v_getI (j := 9) gz_44_31 rfl is_82 rd_5 rfl (fun v7 ev7 pv7 qv7 => ?_)
          have zv7 := ev7.trans c82_9_2_0
          refine w_ifne (t := 44) gz_44_34 rfl (fun u8 => by exfalso; omega) (fun u8 => ?_)
          refine w_aload_n gz_44_37 rfl ?_
          refine v_getI (j := 8) gz_44_38 rfl is_82 rd_5 rfl (fun v9 ev9 pv9 qv9 => ?_)
          have zv9 := ev9.trans ev5.symm
          refine w_goto (t := 45) gz_44_41 rfl ?_
          refine w_iret gz_44_45 gm_44 ?_
          show wp l rho (d + 2) 56 13 [(2, 82), (0, p2_0), (9, 0)] [(0, v9)] h2_0 Q
          refine w_istore_n (ls' := [(2, 82), (0, p2_0), (0, v9)]) gz_56_13 gm_56 rfl rfl rfl ?_
          refine w_iload_n gz_56_14 rfl ?_
          refine w_iconst gz_56_15 (by decide) ?_
          refine w_icne (t := 20) gz_56_16 rfl (fun u10 => ?_) (fun u10 => by exfalso; omega)
          refine w_aload_n gz_56_20 rfl ?_
          refine v_getR (j := 2) gz_56_21 rfl is_82 rd_5 rfl (fun v11 ev11 tv11 => ?_)
          have zv11 : v1 = v11 := (ev11.trans ev1.symm).symm
          subst zv11
          refine w_iload_n gz_56_24 rfl ?_
          refine w_iload_n gz_56_25 rfl ?_
          have ce12 : h2_0 82 2 = v1 := ev1.symm
          have s5a := n_St5_2_0
          have s5e : v1 = h2_0 82 2 := by first | assumption | omega
          unfold St5 at s5a
          rw [← s5e] at s5a
          refine w_inv (k := 1) (as := [(0, p2_0), (0, v9)]) (r := []) (x := v1) (ls0 := [(2, v1), (0, v9), (0, p2_0), (9, 0)]) gz_56_26 gm_57 rfl tv1 rd_4 rfl rfl rfl rfl rfl (c_Lens_isPicked (d := (d + 1)) (x0 := v1) (x1 := v9) (x2 := p2_0) tv1 (by omega) (by omega) (by omega) (by omega) (by first | assumption | omega | (subst_vars; omega)) (fun xp13 => ?_) (fun w14 => ?_))
          ·
            show wp l rho (d + 2) 56 29 [(2, 82), (0, p2_0), (0, v9)] [(0, 0)] h2_0 Q
            have np := xp13
            refine w_ifeq (t := 38) gz_56_29 rfl (fun u15 => ?_) (fun u15 => by exfalso; omega)
            refine w_aload_n gz_56_38 rfl ?_
            refine v_getR (j := 2) gz_56_39 rfl is_82 rd_5 rfl (fun v16 ev16 tv16 => ?_)
            have zv16 : v1 = v16 := (ev16.trans ev1.symm).symm
            subst zv16
            refine w_iload_n gz_56_42 rfl ?_
            refine w_iinc (ls' := [(2, 82), (0, (p2_0 + 1)), (0, v9)]) gz_56_43 rfl gm_56 rfl rfl rfl ⟨by omega, by omega⟩ ?_
            refine w_iload_n gz_56_46 rfl ?_
            have ce17 : h2_0 82 2 = v1 := ev1.symm
            have sv : v1 = h2_0 82 2 := by omega
            have pk7 := n_Pk_2_0
            refine v_knowA (x := (v1 + 5)) (ix_4_5 tv1) rd_36 (fun kA => ?_)
            have hp7 : p2_0 ≤ 7 := by
              rw [sv] at kA s5a
              have np2 := np
              rw [sv] at np2
              exact pick7 (f := fun i => h2_0 (h2_0 82 2 + 5) (h2_0 (h2_0 82 2) 9 * 8 + i)) (by omega) (fun i a b => kA _ (by omega) (by omega)) (fun i j a b c => pk7 i j a b c) (by omega) (by omega) (fun i a b => np2 i a b)
            have hi18 : 0 ≤ p2_0 := by omega
            have hi19 : p2_0 ≤ 7 := by omega
            refine w_inv (k := 0) (as := [(0, v9), (0, p2_0)]) (r := []) (x := v1) (ls0 := [(2, v1), (0, p2_0), (0, v9)]) gz_56_47 gm_58 rfl tv1 rd_4 rfl rfl rfl rfl rfl ?_
            refine w_aload_n gz_58_0 rfl ?_
            refine w_getX (v := (v1 + 5)) gz_58_1 tv1 rd_4 rfl (by decide) rfl ?_
            refine w_aload_n gz_58_4 rfl ?_
            refine v_getI (j := 9) gz_58_5 rfl tv1 rd_4 rfl (fun v21 ev21 pv21 qv21 => ?_)
            refine w_bipush gz_58_8 (by decide) ?_
            refine w_imul gz_58_10 ⟨by omega, by omega⟩ ?_
            refine w_iload_n gz_58_11 rfl ?_
            refine w_iadd gz_58_12 ⟨by omega, by omega⟩ ?_
            refine w_iload_n gz_58_13 rfl ?_
            have hi22 : 0 ≤ ((v21 * 8) + p2_0) := by omega
            have hi23 : ((v21 * 8) + p2_0) ≤ 47 := by omega
            refine w_iast gz_58_14 (ix_4_5 tv1) rd_36 (by omega) (by omega) (by omega) (by omega) (fun h24 fh24 => ?_)
            have gh24 : my_fr [(4, 4), (4, 5), (4, 9), (5, 5), (5, 6), (5, 7), (5, 8), (5, 9), (32, -1), (33, -1), (34, -1), (35, -1), (36, -1), (37, -1), (39, -1)] h h24 := my_fr.up gh_2_0 (ix_4_5 tv1) fh24 rfl
            have Ln_h24 : Ln h24 := Ln_ag (my_ag.up fh24 (ix_4_5 tv1) rfl) n_Ln_2_0
            have Sp_h24 : Sp h24 wv := Sp_ag (my_ag.up fh24 (ix_4_5 tv1) rfl) hwv n_Ln_2_0 n_Sp_2_0
            have St5_h24 : St5 h24 := St5_ag (my_ag.up fh24 (ix_4_5 tv1) rfl) n_Ln_2_0 n_St5_2_0
            refine w_vret gz_58_15 gm_58 ?_
            show wp l rho (d + 2) 56 50 [(2, 82), (0, (p2_0 + 1)), (0, v9)] [] h24 Q
            have Pk_h24t25 : Pk h24 (p2_0 + 1) := Pk_add n_Ln_2_0 n_Pk_2_0 sv (by omega) fh24 np
            refine w_aload_n gz_56_50 rfl ?_
            refine w_inv (k := 2) (as := []) (r := []) (x := 82) (ls0 := [(2, 82), (9, 0), (9, 0)]) gz_56_51 gm_37 rfl is_82 rd_5 rfl rfl rfl rfl rfl (c_Reader_nextToken_f0 (d := d)  (((my_up_role fh24 is_82 (ix_4_5 tv1) rfl).trans ev7.symm).trans (by omega)) (fun h26 frh26 w27 w28 w29 => ?_))
            have gh26 : my_fr [(4, 4), (4, 5), (4, 9), (5, 5), (5, 6), (5, 7), (5, 8), (5, 9), (32, -1), (33, -1), (34, -1), (35, -1), (36, -1), (37, -1), (39, -1)] h h26 := my_fr.tr gh24 (frh26.mo rfl)
            have Ln_h26 : Ln h26 := Ln_ag (my_ag.fr frh26 rfl) Ln_h24
            have Sp_h26 : Sp h26 wv := Sp_ag (my_ag.fr frh26 rfl) hwv Ln_h24 Sp_h24
            have St5_h26 : St5 h26 := St5_ag (my_ag.fr frh26 rfl) Ln_h24 St5_h24
            have Pk_h26 : Pk h26 (p2_0 + 1) := Pk_ag (my_ag.fr frh26 rfl) Ln_h24 Pk_h24t25
            show wp l rho (d + 2) 56 54 [(2, 82), (0, (p2_0 + 1)), (0, v9)] [] h26 Q
            refine w_aload_n gz_56_54 rfl ?_
            refine v_getI (j := 6) gz_56_55 rfl is_82 rd_5 rfl (fun v30 ev30 pv30 qv30 => ?_)
            have zv30 := ev30.trans (rfl : h26 82 6 = h26 82 6)
            refine w_iconst gz_56_58 (by decide) ?_
            refine w_iceq (t := 68) gz_56_59 rfl (fun u31 => ?_) (fun u31 => ?_)
            ·
              refine w_aload_n gz_56_68 rfl ?_
              refine w_inv (k := 2) (as := []) (r := []) (x := 82) (ls0 := [(2, 82), (9, 0), (9, 0)]) gz_56_69 gm_37 rfl is_82 rd_5 rfl rfl rfl rfl rfl (c_Reader_nextToken_f0 (d := d)  (((my_fr.at frh26 is_82 rfl).trans ((my_up_role fh24 is_82 (ix_4_5 tv1) rfl).trans ev7.symm)).trans (by omega)) (fun h32 frh32 w33 w34 w35 => ?_))
              have gh32 : my_fr [(4, 4), (4, 5), (4, 9), (5, 5), (5, 6), (5, 7), (5, 8), (5, 9), (32, -1), (33, -1), (34, -1), (35, -1), (36, -1), (37, -1), (39, -1)] h h32 := my_fr.tr gh26 (frh32.mo rfl)
              have Ln_h32 : Ln h32 := Ln_ag (my_ag.fr frh32 rfl) Ln_h26
              have Sp_h32 : Sp h32 wv := Sp_ag (my_ag.fr frh32 rfl) hwv Ln_h26 Sp_h26
              have St5_h32 : St5 h32 := St5_ag (my_ag.fr frh32 rfl) Ln_h26 St5_h26
              have Pk_h32 : Pk h32 (p2_0 + 1) := Pk_ag (my_ag.fr frh32 rfl) Ln_h26 Pk_h26
              show wp l rho (d + 2) 56 72 [(2, 82), (0, (p2_0 + 1)), (0, v9)] [] h32 Q
              refine w_aload_n gz_56_72 rfl ?_
              refine v_getR (j := 2) gz_56_73 rfl is_82 rd_5 rfl (fun v36 ev36 tv36 => ?_)
              have zv36 : v1 = v36 := (ev36.trans ((my_fr.at frh32 is_82 rfl).trans ((my_fr.at frh26 is_82 rfl).trans ((my_up_role fh24 is_82 (ix_4_5 tv1) rfl).trans ev1.symm)))).symm
              subst zv36
              refine w_iload_n gz_56_76 rfl ?_
              have ce37 : h32 82 2 = v1 := ((my_fr.at frh32 is_82 rfl).trans ((my_fr.at frh26 is_82 rfl).trans ((my_up_role fh24 is_82 (ix_4_5 tv1) rfl).trans ev1.symm)))
              have s5a := St5_h32
              have s5e : v1 = h32 82 2 := by first | assumption | omega
              unfold St5 at s5a
              rw [← s5e] at s5a
              have hi38 : 1 ≤ (p2_0 + 1) := by omega
              have hi39 : (p2_0 + 1) ≤ 8 := by omega
              refine w_inv (k := 1) (as := [(0, (p2_0 + 1))]) (r := []) (x := v1) (ls0 := [(2, v1), (0, (p2_0 + 1)), (9, 0)]) gz_56_77 gm_59 rfl tv1 rd_4 rfl rfl rfl rfl rfl (c_Lens_addFew (d := d) (x0 := v1) (x1 := (p2_0 + 1)) tv1 (by omega) (by omega) (by first | assumption | omega | (subst_vars; omega)) (fun h40 frh40 fxh40 w41 w42 w43 w44 xp45 => ?_))
              have gh40 : my_fr [(4, 4), (4, 5), (4, 9), (5, 5), (5, 6), (5, 7), (5, 8), (5, 9), (32, -1), (33, -1), (34, -1), (35, -1), (36, -1), (37, -1), (39, -1)] h h40 := my_fr.tr gh32 (frh40.mo rfl)
              have Ln_h40 : Ln h40 := Ln_fx fxh40 (by first | assumption | omega) Ln_h32
              show wp l rho (d + 2) 56 80 [(2, 82), (0, (p2_0 + 1)), (0, v9)] [] h40 Q
              have Sp_h40t46 : Sp h40 wv := Sp_add fxh40 (by first | assumption | omega) hwv Ln_h32 Sp_h32 xp45 (by have := St5_h32.1; omega) (by omega) (by omega)
              have c47 := ((my_fr.at frh40 is_82 rfl).trans ((my_fr.at frh32 is_82 rfl).trans ((my_fr.at frh26 is_82 rfl).trans ((my_up_role fh24 is_82 (ix_4_5 tv1) rfl).trans ev7.symm))))
              exact w_vret gz_56_80 gm_56 (k1 h40 (gh40) (by omega) Ln_h40 Sp_h40t46)
            ·
              refine w_iload_n gz_56_62 rfl ?_
              refine w_bipush gz_56_63 (by decide) ?_
              refine w_icle (t := 2) gz_56_65 rfl (fun u48 => ?_) (fun u48 => by exfalso; omega)
              refine w_weak (ls' := [(2, 82), (0, (p2_0 + 1)), (9, 0)]) (wk_e (wk_e (wk_9 wk_n))) ?_
              exact ih_2_0 ((p2_0 + 1)) h26 (gh26) (by omega) (by omega) (((my_fr.at frh26 is_82 rfl).trans ((my_up_role fh24 is_82 (ix_4_5 tv1) rfl).trans ev7.symm)).trans (by omega)) Ln_h26 Sp_h26 St5_h26 Pk_h26 (by omega)
          ·
            show wp l rho (d + 2) 56 29 [(2, 82), (0, p2_0), (0, v9)] [(0, 1)] h2_0 Q
            refine w_ifeq (t := 38) gz_56_29 rfl (fun u49 => by exfalso; omega) (fun u49 => ?_)
            refine w_aload_n gz_56_32 rfl ?_
            refine w_iconst gz_56_33 (by decide) ?_
            refine w_inv (k := 0) (as := [(0, 3)]) (r := []) (x := 82) (ls0 := [(2, 82), (0, 3)]) gz_56_34 gm_42 rfl is_82 rd_5 rfl rfl rfl rfl rfl ?_
            refine w_aload_n gz_42_0 rfl ?_
            refine v_getI (j := 9) gz_42_1 rfl is_82 rd_5 rfl (fun v50 ev50 pv50 qv50 => ?_)
            have zv50 := ev50.trans ev7.symm
            refine w_ifne (t := 20) gz_42_4 rfl (fun u51 => by exfalso; omega) (fun u51 => ?_)
            refine w_aload_n gz_42_7 rfl ?_
            refine w_iload_n gz_42_8 rfl ?_
            refine w_bipush gz_42_9 (by decide) ?_
            refine w_aload_n gz_42_11 rfl ?_
            refine v_getI (j := 7) gz_42_12 rfl is_82 rd_5 rfl (fun v52 ev52 pv52 qv52 => ?_)
            refine w_imul gz_42_15 ⟨by omega, by omega⟩ ?_
            refine w_iadd gz_42_16 ⟨by omega, by omega⟩ ?_
            refine v_putI (j := 9) gz_42_17 rfl is_82 rd_5 rfl (by omega) (by omega) rfl (fun h53 fh53 => ?_)
            have gh53 : my_fr [(4, 4), (4, 5), (4, 9), (5, 5), (5, 6), (5, 7), (5, 8), (5, 9), (32, -1), (33, -1), (34, -1), (35, -1), (36, -1), (37, -1), (39, -1)] h h53 := my_fr.up gh_2_0 is_82 fh53 rfl
            have Ln_h53 : Ln h53 := Ln_ag (my_ag.up fh53 is_82 rfl) n_Ln_2_0
            have Sp_h53 : Sp h53 wv := Sp_ag (my_ag.up fh53 is_82 rfl) hwv n_Ln_2_0 n_Sp_2_0
            have St5_h53 : St5 h53 := St5_ag (my_ag.up fh53 is_82 rfl) n_Ln_2_0 n_St5_2_0
            have Pk_h53 : Pk h53 p2_0 := Pk_ag (my_ag.up fh53 is_82 rfl) n_Ln_2_0 n_Pk_2_0
            refine w_vret gz_42_20 gm_42 ?_
            show wp l rho (d + 2) 56 37 [(2, 82), (0, p2_0), (0, v9)] [] h53 Q
            have c54 := (my_up_self fh53)
            exact w_vret gz_56_37 gm_56 (k0 h53 (gh53) (by omega) (by omega) Ln_h53 Sp_h53)
        ·
          refine w_aload_n gz_44_23 rfl ?_
          refine w_iconst gz_44_24 (by decide) ?_
          refine w_inv (k := 0) (as := [(0, 4)]) (r := []) (x := 82) (ls0 := [(2, 82), (0, 4)]) gz_44_25 gm_42 rfl is_82 rd_5 rfl rfl rfl rfl rfl ?_
          refine w_aload_n gz_42_0 rfl ?_
          refine v_getI (j := 9) gz_42_1 rfl is_82 rd_5 rfl (fun v55 ev55 pv55 qv55 => ?_)
          have zv55 := ev55.trans c82_9_2_0
          refine w_ifne (t := 20) gz_42_4 rfl (fun u56 => by exfalso; omega) (fun u56 => ?_)
          refine w_aload_n gz_42_7 rfl ?_
          refine w_iload_n gz_42_8 rfl ?_
          refine w_bipush gz_42_9 (by decide) ?_
          refine w_aload_n gz_42_11 rfl ?_
          refine v_getI (j := 7) gz_42_12 rfl is_82 rd_5 rfl (fun v57 ev57 pv57 qv57 => ?_)
          refine w_imul gz_42_15 ⟨by omega, by omega⟩ ?_
          refine w_iadd gz_42_16 ⟨by omega, by omega⟩ ?_
          refine v_putI (j := 9) gz_42_17 rfl is_82 rd_5 rfl (by omega) (by omega) rfl (fun h58 fh58 => ?_)
          have gh58 : my_fr [(4, 4), (4, 5), (4, 9), (5, 5), (5, 6), (5, 7), (5, 8), (5, 9), (32, -1), (33, -1), (34, -1), (35, -1), (36, -1), (37, -1), (39, -1)] h h58 := my_fr.up gh_2_0 is_82 fh58 rfl
          have Ln_h58 : Ln h58 := Ln_ag (my_ag.up fh58 is_82 rfl) n_Ln_2_0
          have Sp_h58 : Sp h58 wv := Sp_ag (my_ag.up fh58 is_82 rfl) hwv n_Ln_2_0 n_Sp_2_0
          have St5_h58 : St5 h58 := St5_ag (my_ag.up fh58 is_82 rfl) n_Ln_2_0 n_St5_2_0
          have Pk_h58 : Pk h58 p2_0 := Pk_ag (my_ag.up fh58 is_82 rfl) n_Ln_2_0 n_Pk_2_0
          refine w_vret gz_42_20 gm_42 ?_
          show wp l rho (d + 1) 44 28 [(2, 82), (0, v2)] [] h58 _
          refine w_iconst gz_44_28 (by decide) ?_
          refine w_iret gz_44_29 gm_44 ?_
          show wp l rho (d + 2) 56 13 [(2, 82), (0, p2_0), (9, 0)] [(0, (-1))] h58 Q
          refine w_istore_n (ls' := [(2, 82), (0, p2_0), (0, (-1))]) gz_56_13 gm_56 rfl rfl rfl ?_
          refine w_iload_n gz_56_14 rfl ?_
          refine w_iconst gz_56_15 (by decide) ?_
          refine w_icne (t := 20) gz_56_16 rfl (fun u59 => by exfalso; omega) (fun u59 => ?_)
          have c60 := (my_up_self fh58)
          exact w_vret gz_56_19 gm_56 (k0 h58 (gh58) (by omega) (by omega) Ln_h58 Sp_h58)
      ·
        refine w_aload_n gz_44_8 rfl ?_
        refine w_iconst gz_44_9 (by decide) ?_
        refine w_inv (k := 0) (as := [(0, 1)]) (r := []) (x := 82) (ls0 := [(2, 82), (0, 1)]) gz_44_10 gm_42 rfl is_82 rd_5 rfl rfl rfl rfl rfl ?_
        refine w_aload_n gz_42_0 rfl ?_
        refine v_getI (j := 9) gz_42_1 rfl is_82 rd_5 rfl (fun v61 ev61 pv61 qv61 => ?_)
        have zv61 := ev61.trans c82_9_2_0
        refine w_ifne (t := 20) gz_42_4 rfl (fun u62 => by exfalso; omega) (fun u62 => ?_)
        refine w_aload_n gz_42_7 rfl ?_
        refine w_iload_n gz_42_8 rfl ?_
        refine w_bipush gz_42_9 (by decide) ?_
        refine w_aload_n gz_42_11 rfl ?_
        refine v_getI (j := 7) gz_42_12 rfl is_82 rd_5 rfl (fun v63 ev63 pv63 qv63 => ?_)
        refine w_imul gz_42_15 ⟨by omega, by omega⟩ ?_
        refine w_iadd gz_42_16 ⟨by omega, by omega⟩ ?_
        refine v_putI (j := 9) gz_42_17 rfl is_82 rd_5 rfl (by omega) (by omega) rfl (fun h64 fh64 => ?_)
        have gh64 : my_fr [(4, 4), (4, 5), (4, 9), (5, 5), (5, 6), (5, 7), (5, 8), (5, 9), (32, -1), (33, -1), (34, -1), (35, -1), (36, -1), (37, -1), (39, -1)] h h64 := my_fr.up gh_2_0 is_82 fh64 rfl
        have Ln_h64 : Ln h64 := Ln_ag (my_ag.up fh64 is_82 rfl) n_Ln_2_0
        have Sp_h64 : Sp h64 wv := Sp_ag (my_ag.up fh64 is_82 rfl) hwv n_Ln_2_0 n_Sp_2_0
        have St5_h64 : St5 h64 := St5_ag (my_ag.up fh64 is_82 rfl) n_Ln_2_0 n_St5_2_0
        have Pk_h64 : Pk h64 p2_0 := Pk_ag (my_ag.up fh64 is_82 rfl) n_Ln_2_0 n_Pk_2_0
        refine w_vret gz_42_20 gm_42 ?_
        show wp l rho (d + 1) 44 13 [(2, 82), (0, v2)] [] h64 _
        refine w_iconst gz_44_13 (by decide) ?_
        refine w_iret gz_44_14 gm_44 ?_
        show wp l rho (d + 2) 56 13 [(2, 82), (0, p2_0), (9, 0)] [(0, (-1))] h64 Q
        refine w_istore_n (ls' := [(2, 82), (0, p2_0), (0, (-1))]) gz_56_13 gm_56 rfl rfl rfl ?_
        refine w_iload_n gz_56_14 rfl ?_
        refine w_iconst gz_56_15 (by decide) ?_
        refine w_icne (t := 20) gz_56_16 rfl (fun u65 => by exfalso; omega) (fun u65 => ?_)
        have c66 := (my_up_self fh64)
        exact w_vret gz_56_19 gm_56 (k0 h64 (gh64) (by omega) (by omega) Ln_h64 Sp_h64)
  refine w_iconst gz_56_0 (by decide) ?_
  refine w_istore_n (ls' := [(2, 82), (0, 0), (9, 0)]) gz_56_1 gm_56 rfl rfl rfl ?_
  exact J2_0 9 (0) h (my_fr.rf) (by omega) (by omega) (cf.trans (by omega)) n_Ln n_Sp n_St5 (fun i j a b c => absurd c (by omega)) (by omega)
theorem c_Reader_readJoin_f0 {l : Launch} {rho : Nat → Int32} {d : Nat} {h : my_H} {Q : my_H → my_V → Prop} {wv : Int} (cf : h 82 9 = 0) (hwv : wv ≤ 5) (hwv0 : 0 ≤ wv) (n_Ln : Ln h) (n_Sp : Sp h wv) (n_St5 : St5 h) (k0 : ∀ (h' : my_H), my_fr [(4, 4), (4, 5), (4, 6), (4, 8), (4, 9), (5, 5), (5, 6), (5, 7), (5, 8), (5, 9), (32, -1), (33, -1), (34, -1), (35, -1), (37, -1)] h h' → 1 ≤ h' 82 9 → h' 82 9 ≤ 16005 → Ln h' → Sp h' wv → Q h' (9, 0)) (k1 : ∀ (h' : my_H), my_fr [(4, 4), (4, 5), (4, 6), (4, 8), (4, 9), (5, 5), (5, 6), (5, 7), (5, 8), (5, 9), (32, -1), (33, -1), (34, -1), (35, -1), (37, -1)] h h' → h' 82 9 = 0 → Ln h' → Sp h' wv → Q h' (9, 0)) : wp l rho (d + 3) 60 0 [(2, 82), (9, 0), (9, 0), (9, 0)] [] h Q := by
  refine w_aload_n gz_60_0 rfl ?_
  refine w_inv (k := 1) (as := []) (r := []) (x := 82) (ls0 := [(2, 82), (9, 0)]) gz_60_1 gm_43 rfl is_82 rd_5 rfl rfl rfl rfl rfl (c_Reader_wallNumber_f0 (d := d)  (cf.trans (by omega)) (fun h1 frh1 w2 w3 xp4 => ?_) (fun h5 v6 frh5 w7 w8 w9 w10 w11 w12 xp13 => ?_))
  ·
    have gh1 : my_fr [(4, 4), (4, 5), (4, 6), (4, 8), (4, 9), (5, 5), (5, 6), (5, 7), (5, 8), (5, 9), (32, -1), (33, -1), (34, -1), (35, -1), (37, -1)] h h1 := my_fr.tr my_fr.rf (frh1.mo rfl)
    have Ln_h1 : Ln h1 := Ln_ag (my_ag.fr frh1 rfl) n_Ln
    have Sp_h1 : Sp h1 wv := Sp_ag (my_ag.fr frh1 rfl) hwv n_Ln n_Sp
    have St5_h1 : St5 h1 := St5_ag (my_ag.fr frh1 rfl) n_Ln n_St5
    show wp l rho (d + 3) 60 4 [(2, 82), (9, 0), (9, 0), (9, 0)] [(0, (-1))] h1 Q
    refine w_istore_n (ls' := [(2, 82), (0, (-1)), (9, 0), (9, 0)]) gz_60_4 gm_60 rfl rfl rfl ?_
    refine w_iload_n gz_60_5 rfl ?_
    refine w_iconst gz_60_6 (by decide) ?_
    refine w_icne (t := 11) gz_60_7 rfl (fun u14 => by exfalso; omega) (fun u14 => ?_)
    have c15 := (rfl : h1 82 9 = h1 82 9)
    exact w_vret gz_60_10 gm_60 (k0 h1 (gh1) (by omega) (by omega) Ln_h1 Sp_h1)
  ·
    have gh5 : my_fr [(4, 4), (4, 5), (4, 6), (4, 8), (4, 9), (5, 5), (5, 6), (5, 7), (5, 8), (5, 9), (32, -1), (33, -1), (34, -1), (35, -1), (37, -1)] h h5 := my_fr.tr my_fr.rf (frh5.mo rfl)
    have Ln_h5 : Ln h5 := Ln_ag (my_ag.fr frh5 rfl) n_Ln
    have Sp_h5 : Sp h5 wv := Sp_ag (my_ag.fr frh5 rfl) hwv n_Ln n_Sp
    have St5_h5 : St5 h5 := St5_ag (my_ag.fr frh5 rfl) n_Ln n_St5
    show wp l rho (d + 3) 60 4 [(2, 82), (9, 0), (9, 0), (9, 0)] [(0, v6)] h5 Q
    refine w_istore_n (ls' := [(2, 82), (0, v6), (9, 0), (9, 0)]) gz_60_4 gm_60 rfl rfl rfl ?_
    refine w_iload_n gz_60_5 rfl ?_
    refine w_iconst gz_60_6 (by decide) ?_
    refine w_icne (t := 11) gz_60_7 rfl (fun u16 => ?_) (fun u16 => by exfalso; omega)
    refine w_aload_n gz_60_11 rfl ?_
    refine w_getX (v := 1) gz_60_12 is_82 rd_5 rfl (by decide) rfl ?_
    refine w_getX (v := 2) gz_60_15 is_1 rd_3 rfl (by decide) rfl ?_
    refine w_iload_n gz_60_18 rfl ?_
    refine w_iald gz_60_19 is_2 rd_25 (by omega) (by omega) (fun v19 ev19 pv19 qv19 => ?_)
    refine w_istore_n (ls' := [(2, 82), (0, v6), (0, v19), (9, 0)]) gz_60_20 gm_60 rfl rfl rfl ?_
    refine w_aload_n gz_60_21 rfl ?_
    refine v_getR (j := 2) gz_60_22 rfl is_82 rd_5 rfl (fun v20 ev20 tv20 => ?_)
    have ce21 : h5 v20 4 = h v20 4 := ((my_fr.at frh5 tv20 rfl).trans (rfl : h v20 4 = h v20 4))
    refine v_getI (j := 4) gz_60_25 rfl tv20 rd_4 rfl (fun v22 ev22 pv22 qv22 => ?_)
    refine w_iload_n gz_60_28 rfl ?_
    refine w_iadd gz_60_29 ⟨by omega, by omega⟩ ?_
    refine w_iconst gz_60_30 (by decide) ?_
    refine w_isub gz_60_31 ⟨by omega, by omega⟩ ?_
    refine w_bipush gz_60_32 (by decide) ?_
    refine w_icle (t := 43) gz_60_34 rfl (fun u23 => ?_) (fun u23 => ?_)
    ·
      refine w_aload_n gz_60_43 rfl ?_
      refine w_inv (k := 2) (as := []) (r := []) (x := 82) (ls0 := [(2, 82), (9, 0), (9, 0)]) gz_60_44 gm_37 rfl is_82 rd_5 rfl rfl rfl rfl rfl (c_Reader_nextToken_f0 (d := (d + 1))  (w12.trans (by omega)) (fun h24 frh24 w25 w26 w27 => ?_))
      have gh24 : my_fr [(4, 4), (4, 5), (4, 6), (4, 8), (4, 9), (5, 5), (5, 6), (5, 7), (5, 8), (5, 9), (32, -1), (33, -1), (34, -1), (35, -1), (37, -1)] h h24 := my_fr.tr gh5 (frh24.mo rfl)
      have Ln_h24 : Ln h24 := Ln_ag (my_ag.fr frh24 rfl) Ln_h5
      have Sp_h24 : Sp h24 wv := Sp_ag (my_ag.fr frh24 rfl) hwv Ln_h5 Sp_h5
      have St5_h24 : St5 h24 := St5_ag (my_ag.fr frh24 rfl) Ln_h5 St5_h5
      show wp l rho (d + 3) 60 47 [(2, 82), (0, v6), (0, v19), (9, 0)] [] h24 Q
      refine w_aload_n gz_60_47 rfl ?_
      refine w_ldcS gz_60_48 (by decide) ?_
      refine w_inv (k := 0) (as := [(3, ((12 : Nat) : Int))]) (r := []) (x := 82) (ls0 := [(2, 82), (3, ((12 : Nat) : Int))]) gz_60_50 gm_40 rfl is_82 rd_5 rfl rfl rfl rfl rfl (c_Reader_takeWord_f0 (d := d) (x1 := ((12 : Nat) : Int)) (by decide) (((my_fr.at frh24 is_82 rfl).trans w12).trans (by omega)) (fun h28 frh28 w29 w30 => ?_) (fun h31 frh31 w32 => ?_))
      ·
        have gh28 : my_fr [(4, 4), (4, 5), (4, 6), (4, 8), (4, 9), (5, 5), (5, 6), (5, 7), (5, 8), (5, 9), (32, -1), (33, -1), (34, -1), (35, -1), (37, -1)] h h28 := my_fr.tr gh24 (frh28.mo rfl)
        have Ln_h28 : Ln h28 := Ln_ag (my_ag.fr frh28 rfl) Ln_h24
        have Sp_h28 : Sp h28 wv := Sp_ag (my_ag.fr frh28 rfl) hwv Ln_h24 Sp_h24
        have St5_h28 : St5 h28 := St5_ag (my_ag.fr frh28 rfl) Ln_h24 St5_h24
        show wp l rho (d + 3) 60 53 [(2, 82), (0, v6), (0, v19), (9, 0)] [(0, 0)] h28 Q
        refine w_ifne (t := 57) gz_60_53 rfl (fun u33 => by exfalso; omega) (fun u33 => ?_)
        have c34 := (rfl : h28 82 9 = h28 82 9)
        exact w_vret gz_60_56 gm_60 (k0 h28 (gh28) (by omega) (by omega) Ln_h28 Sp_h28)
      ·
        have gh31 : my_fr [(4, 4), (4, 5), (4, 6), (4, 8), (4, 9), (5, 5), (5, 6), (5, 7), (5, 8), (5, 9), (32, -1), (33, -1), (34, -1), (35, -1), (37, -1)] h h31 := my_fr.tr gh24 (frh31.mo rfl)
        have Ln_h31 : Ln h31 := Ln_ag (my_ag.fr frh31 rfl) Ln_h24
        have Sp_h31 : Sp h31 wv := Sp_ag (my_ag.fr frh31 rfl) hwv Ln_h24 Sp_h24
        have St5_h31 : St5 h31 := St5_ag (my_ag.fr frh31 rfl) Ln_h24 St5_h24
        show wp l rho (d + 3) 60 53 [(2, 82), (0, v6), (0, v19), (9, 0)] [(0, 1)] h31 Q
        refine w_ifne (t := 57) gz_60_53 rfl (fun u35 => ?_) (fun u35 => by exfalso; omega)
        refine w_aload_n gz_60_57 rfl ?_
        refine w_aload_n gz_60_58 rfl ?_
        refine v_getR (j := 2) gz_60_59 rfl is_82 rd_5 rfl (fun v36 ev36 tv36 => ?_)
        have zv36 : v20 = v36 := (ev36.trans ((my_fr.at frh31 is_82 rfl).trans ((my_fr.at frh24 is_82 rfl).trans ev20.symm))).symm
        subst zv36
        refine v_getI (j := 4) gz_60_62 rfl tv20 rd_4 rfl (fun v37 ev37 pv37 qv37 => ?_)
        have zv37 := ev37.trans ((my_fr.at frh31 tv20 rfl).trans ((my_fr.at frh24 tv20 rfl).trans ev22.symm))
        refine w_inv (k := 1) (as := [(0, v37)]) (r := []) (x := 82) (ls0 := [(2, 82), (0, v37), (9, 0)]) gz_60_65 gm_51 rfl is_82 rd_5 rfl rfl rfl rfl rfl (c_Reader_takeNumber_f0 (d := d) (x1 := v37) (by omega) (by omega) (w32.trans (by omega)) (fun h38 frh38 w39 w40 => ?_) (fun h41 v42 frh41 w43 w44 w45 w46 w47 => ?_))
        ·
          have gh38 : my_fr [(4, 4), (4, 5), (4, 6), (4, 8), (4, 9), (5, 5), (5, 6), (5, 7), (5, 8), (5, 9), (32, -1), (33, -1), (34, -1), (35, -1), (37, -1)] h h38 := my_fr.tr gh31 (frh38.mo rfl)
          have Ln_h38 : Ln h38 := Ln_ag (my_ag.fr frh38 rfl) Ln_h31
          have Sp_h38 : Sp h38 wv := Sp_ag (my_ag.fr frh38 rfl) hwv Ln_h31 Sp_h31
          have St5_h38 : St5 h38 := St5_ag (my_ag.fr frh38 rfl) Ln_h31 St5_h31
          show wp l rho (d + 3) 60 68 [(2, 82), (0, v6), (0, v19), (9, 0)] [(0, (-1))] h38 Q
          refine w_istore_n (ls' := [(2, 82), (0, v6), (0, v19), (0, (-1))]) gz_60_68 gm_60 rfl rfl rfl ?_
          refine w_aload_n gz_60_69 rfl ?_
          refine v_getI (j := 9) gz_60_70 rfl is_82 rd_5 rfl (fun v48 ev48 pv48 qv48 => ?_)
          have zv48 := ev48.trans (rfl : h38 82 9 = h38 82 9)
          refine w_ifne (t := 93) gz_60_73 rfl (fun u49 => ?_) (fun u49 => by exfalso; omega)
          have c50 := ev48.symm
          exact w_vret gz_60_93 gm_60 (k0 h38 (gh38) (by omega) (by omega) Ln_h38 Sp_h38)
        ·
          have gh41 : my_fr [(4, 4), (4, 5), (4, 6), (4, 8), (4, 9), (5, 5), (5, 6), (5, 7), (5, 8), (5, 9), (32, -1), (33, -1), (34, -1), (35, -1), (37, -1)] h h41 := my_fr.tr gh31 (frh41.mo rfl)
          have Ln_h41 : Ln h41 := Ln_ag (my_ag.fr frh41 rfl) Ln_h31
          have Sp_h41 : Sp h41 wv := Sp_ag (my_ag.fr frh41 rfl) hwv Ln_h31 Sp_h31
          have St5_h41 : St5 h41 := St5_ag (my_ag.fr frh41 rfl) Ln_h31 St5_h31
          show wp l rho (d + 3) 60 68 [(2, 82), (0, v6), (0, v19), (9, 0)] [(0, v42)] h41 Q
          refine w_istore_n (ls' := [(2, 82), (0, v6), (0, v19), (0, v42)]) gz_60_68 gm_60 rfl rfl rfl ?_
          refine w_aload_n gz_60_69 rfl ?_
          refine v_getI (j := 9) gz_60_70 rfl is_82 rd_5 rfl (fun v51 ev51 pv51 qv51 => ?_)
          have zv51 := ev51.trans w47
          refine w_ifne (t := 93) gz_60_73 rfl (fun u52 => by exfalso; omega) (fun u52 => ?_)
          refine w_aload_n gz_60_76 rfl ?_
          refine w_inv (k := 0) (as := []) (r := []) (x := 82) (ls0 := [(2, 82)]) gz_60_77 gm_47 rfl is_82 rd_5 rfl rfl rfl rfl rfl (c_Reader_endsHere_f0 (d := d)  (ev51.symm.trans (by omega)) (fun h53 frh53 w54 w55 => ?_) (fun h56 frh56 w57 => ?_))
          ·
            have gh53 : my_fr [(4, 4), (4, 5), (4, 6), (4, 8), (4, 9), (5, 5), (5, 6), (5, 7), (5, 8), (5, 9), (32, -1), (33, -1), (34, -1), (35, -1), (37, -1)] h h53 := my_fr.tr gh41 (frh53.mo rfl)
            have Ln_h53 : Ln h53 := Ln_ag (my_ag.fr frh53 rfl) Ln_h41
            have Sp_h53 : Sp h53 wv := Sp_ag (my_ag.fr frh53 rfl) hwv Ln_h41 Sp_h41
            have St5_h53 : St5 h53 := St5_ag (my_ag.fr frh53 rfl) Ln_h41 St5_h41
            show wp l rho (d + 3) 60 80 [(2, 82), (0, v6), (0, v19), (0, v42)] [(0, 0)] h53 Q
            refine w_ifeq (t := 93) gz_60_80 rfl (fun u58 => ?_) (fun u58 => by exfalso; omega)
            have c59 := (rfl : h53 82 9 = h53 82 9)
            exact w_vret gz_60_93 gm_60 (k0 h53 (gh53) (by omega) (by omega) Ln_h53 Sp_h53)
          ·
            have gh56 : my_fr [(4, 4), (4, 5), (4, 6), (4, 8), (4, 9), (5, 5), (5, 6), (5, 7), (5, 8), (5, 9), (32, -1), (33, -1), (34, -1), (35, -1), (37, -1)] h h56 := my_fr.tr gh41 (frh56.mo rfl)
            have Ln_h56 : Ln h56 := Ln_ag (my_ag.fr frh56 rfl) Ln_h41
            have Sp_h56 : Sp h56 wv := Sp_ag (my_ag.fr frh56 rfl) hwv Ln_h41 Sp_h41
            have St5_h56 : St5 h56 := St5_ag (my_ag.fr frh56 rfl) Ln_h41 St5_h41
            show wp l rho (d + 3) 60 80 [(2, 82), (0, v6), (0, v19), (0, v42)] [(0, 1)] h56 Q
            refine w_ifeq (t := 93) gz_60_80 rfl (fun u60 => by exfalso; omega) (fun u60 => ?_)
            refine w_aload_n gz_60_83 rfl ?_
            refine v_getR (j := 2) gz_60_84 rfl is_82 rd_5 rfl (fun v61 ev61 tv61 => ?_)
            have zv61 : v20 = v61 := (ev61.trans ((my_fr.at frh56 is_82 rfl).trans ((my_fr.at frh41 is_82 rfl).trans ((my_fr.at frh31 is_82 rfl).trans ((my_fr.at frh24 is_82 rfl).trans ev20.symm))))).symm
            subst zv61
            refine w_iload_n gz_60_87 rfl ?_
            refine w_iload_n gz_60_88 rfl ?_
            refine w_iload_n gz_60_89 rfl ?_
            have ce62 : h56 82 2 = v20 := ((my_fr.at frh56 is_82 rfl).trans ((my_fr.at frh41 is_82 rfl).trans ((my_fr.at frh31 is_82 rfl).trans ((my_fr.at frh24 is_82 rfl).trans ev20.symm))))
            have s5a := St5_h56
            have s5e : v20 = h56 82 2 := by first | assumption | omega
            unfold St5 at s5a
            rw [← s5e] at s5a
            have ce63 : h56 v20 4 = h v20 4 := ((my_fr.at frh56 tv20 rfl).trans ((my_fr.at frh41 tv20 rfl).trans ((my_fr.at frh31 tv20 rfl).trans ((my_fr.at frh24 tv20 rfl).trans ((my_fr.at frh5 tv20 rfl).trans (rfl : h v20 4 = h v20 4))))))
            have hi64 : 1 ≤ v19 := by first | omega | (subst_vars; omega) | grind
            have hi65 : v19 ≤ 4 := by first | omega | (subst_vars; omega) | grind
            refine w_inv (k := 1) (as := [(0, v42), (0, v19), (0, v6)]) (r := []) (x := v20) (ls0 := [(2, v20), (0, v6), (0, v19), (0, v42), (9, 0)]) gz_60_90 gm_61 rfl tv20 rd_4 rfl rfl rfl rfl rfl (c_Lens_addJoin (d := (d + 1)) (x0 := v20) (x1 := v6) (x2 := v19) (x3 := v42) tv20 (by omega) (by omega) (by omega) (by omega) (by omega) (by omega) (by first | assumption | omega | (subst_vars; omega)) (by first | assumption | omega | (subst_vars; omega)) (fun h66 frh66 fxh66 w67 w68 xp69 => ?_))
            have gh66 : my_fr [(4, 4), (4, 5), (4, 6), (4, 8), (4, 9), (5, 5), (5, 6), (5, 7), (5, 8), (5, 9), (32, -1), (33, -1), (34, -1), (35, -1), (37, -1)] h h66 := my_fr.tr gh56 (frh66.mo rfl)
            have Ln_h66 : Ln h66 := Ln_fx fxh66 (by first | assumption | omega) Ln_h56
            show wp l rho (d + 3) 60 93 [(2, 82), (0, v6), (0, v19), (0, v42)] [] h66 Q
            have Sp_h66t70 : Sp h66 wv := Sp_add fxh66 (by first | assumption | omega) hwv Ln_h56 Sp_h56 xp69 (by have := St5_h56.1; omega) (by omega) (by omega)
            have c71 := ((my_fr.at frh66 is_82 rfl).trans w57)
            exact w_vret gz_60_93 gm_60 (k1 h66 (gh66) (by omega) Ln_h66 Sp_h66t70)
    ·
      refine w_aload_n gz_60_37 rfl ?_
      refine w_iconst gz_60_38 (by decide) ?_
      refine w_inv (k := 0) (as := [(0, 5)]) (r := []) (x := 82) (ls0 := [(2, 82), (0, 5)]) gz_60_39 gm_42 rfl is_82 rd_5 rfl rfl rfl rfl rfl ?_
      refine w_aload_n gz_42_0 rfl ?_
      refine v_getI (j := 9) gz_42_1 rfl is_82 rd_5 rfl (fun v72 ev72 pv72 qv72 => ?_)
      have zv72 := ev72.trans w12
      refine w_ifne (t := 20) gz_42_4 rfl (fun u73 => by exfalso; omega) (fun u73 => ?_)
      refine w_aload_n gz_42_7 rfl ?_
      refine w_iload_n gz_42_8 rfl ?_
      refine w_bipush gz_42_9 (by decide) ?_
      refine w_aload_n gz_42_11 rfl ?_
      refine v_getI (j := 7) gz_42_12 rfl is_82 rd_5 rfl (fun v74 ev74 pv74 qv74 => ?_)
      refine w_imul gz_42_15 ⟨by omega, by omega⟩ ?_
      refine w_iadd gz_42_16 ⟨by omega, by omega⟩ ?_
      refine v_putI (j := 9) gz_42_17 rfl is_82 rd_5 rfl (by omega) (by omega) rfl (fun h75 fh75 => ?_)
      have gh75 : my_fr [(4, 4), (4, 5), (4, 6), (4, 8), (4, 9), (5, 5), (5, 6), (5, 7), (5, 8), (5, 9), (32, -1), (33, -1), (34, -1), (35, -1), (37, -1)] h h75 := my_fr.up gh5 is_82 fh75 rfl
      have Ln_h75 : Ln h75 := Ln_ag (my_ag.up fh75 is_82 rfl) Ln_h5
      have Sp_h75 : Sp h75 wv := Sp_ag (my_ag.up fh75 is_82 rfl) hwv Ln_h5 Sp_h5
      have St5_h75 : St5 h75 := St5_ag (my_ag.up fh75 is_82 rfl) Ln_h5 St5_h5
      refine w_vret gz_42_20 gm_42 ?_
      show wp l rho (d + 3) 60 42 [(2, 82), (0, v6), (0, v19), (9, 0)] [] h75 Q
      have c76 := (my_up_self fh75)
      exact w_vret gz_60_42 gm_60 (k0 h75 (gh75) (by omega) (by omega) Ln_h75 Sp_h75)
theorem c_Reader_readSum_f0 {l : Launch} {rho : Nat → Int32} {d : Nat} {h : my_H} {Q : my_H → my_V → Prop} {wv : Int} (cf : h 82 9 = 0) (hwv : wv ≤ 5) (hwv0 : 0 ≤ wv) (n_Ln : Ln h) (n_Sp : Sp h wv) (n_St5 : St5 h) (k0 : ∀ (h' : my_H), my_fr [(4, 4), (4, 5), (4, 7), (4, 8), (4, 9), (5, 5), (5, 6), (5, 7), (5, 8), (5, 9), (32, -1), (33, -1), (34, -1), (35, -1), (37, -1)] h h' → 1 ≤ h' 82 9 → h' 82 9 ≤ 16004 → Ln h' → Sp h' wv → Q h' (9, 0)) (k1 : ∀ (h' : my_H), my_fr [(4, 4), (4, 5), (4, 7), (4, 8), (4, 9), (5, 5), (5, 6), (5, 7), (5, 8), (5, 9), (32, -1), (33, -1), (34, -1), (35, -1), (37, -1)] h h' → h' 82 9 = 0 → Ln h' → Sp h' wv → Q h' (9, 0)) : wp l rho (d + 3) 62 0 [(2, 82), (9, 0), (9, 0)] [] h Q := by
  refine w_aload_n gz_62_0 rfl ?_
  refine w_aload_n gz_62_1 rfl ?_
  refine v_getR (j := 2) gz_62_2 rfl is_82 rd_5 rfl (fun v1 ev1 tv1 => ?_)
  refine v_getI (j := 4) gz_62_5 rfl tv1 rd_4 rfl (fun v2 ev2 pv2 qv2 => ?_)
  refine w_inv (k := 1) (as := [(0, v2)]) (r := []) (x := 82) (ls0 := [(2, 82), (0, v2), (9, 0)]) gz_62_8 gm_51 rfl is_82 rd_5 rfl rfl rfl rfl rfl (c_Reader_takeNumber_f0 (d := d) (x1 := v2) (by omega) (by omega) (cf.trans (by omega)) (fun h3 frh3 w4 w5 => ?_) (fun h6 v7 frh6 w8 w9 w10 w11 w12 => ?_))
  ·
    have gh3 : my_fr [(4, 4), (4, 5), (4, 7), (4, 8), (4, 9), (5, 5), (5, 6), (5, 7), (5, 8), (5, 9), (32, -1), (33, -1), (34, -1), (35, -1), (37, -1)] h h3 := my_fr.tr my_fr.rf (frh3.mo rfl)
    have Ln_h3 : Ln h3 := Ln_ag (my_ag.fr frh3 rfl) n_Ln
    have Sp_h3 : Sp h3 wv := Sp_ag (my_ag.fr frh3 rfl) hwv n_Ln n_Sp
    have St5_h3 : St5 h3 := St5_ag (my_ag.fr frh3 rfl) n_Ln n_St5
    show wp l rho (d + 3) 62 11 [(2, 82), (9, 0), (9, 0)] [(0, (-1))] h3 Q
    refine w_istore_n (ls' := [(2, 82), (0, (-1)), (9, 0)]) gz_62_11 gm_62 rfl rfl rfl ?_
    refine w_aload_n gz_62_12 rfl ?_
    refine v_getI (j := 9) gz_62_13 rfl is_82 rd_5 rfl (fun v13 ev13 pv13 qv13 => ?_)
    have zv13 := ev13.trans (rfl : h3 82 9 = h3 82 9)
    refine w_ifne (t := 28) gz_62_16 rfl (fun u14 => ?_) (fun u14 => by exfalso; omega)
    have c15 := ev13.symm
    exact w_vret gz_62_28 gm_62 (k0 h3 (gh3) (by omega) (by omega) Ln_h3 Sp_h3)
  ·
    have gh6 : my_fr [(4, 4), (4, 5), (4, 7), (4, 8), (4, 9), (5, 5), (5, 6), (5, 7), (5, 8), (5, 9), (32, -1), (33, -1), (34, -1), (35, -1), (37, -1)] h h6 := my_fr.tr my_fr.rf (frh6.mo rfl)
    have Ln_h6 : Ln h6 := Ln_ag (my_ag.fr frh6 rfl) n_Ln
    have Sp_h6 : Sp h6 wv := Sp_ag (my_ag.fr frh6 rfl) hwv n_Ln n_Sp
    have St5_h6 : St5 h6 := St5_ag (my_ag.fr frh6 rfl) n_Ln n_St5
    show wp l rho (d + 3) 62 11 [(2, 82), (9, 0), (9, 0)] [(0, v7)] h6 Q
    refine w_istore_n (ls' := [(2, 82), (0, v7), (9, 0)]) gz_62_11 gm_62 rfl rfl rfl ?_
    refine w_aload_n gz_62_12 rfl ?_
    refine v_getI (j := 9) gz_62_13 rfl is_82 rd_5 rfl (fun v16 ev16 pv16 qv16 => ?_)
    have zv16 := ev16.trans w12
    refine w_ifne (t := 28) gz_62_16 rfl (fun u17 => by exfalso; omega) (fun u17 => ?_)
    refine w_aload_n gz_62_19 rfl ?_
    refine w_ldcS gz_62_20 (by decide) ?_
    refine w_inv (k := 0) (as := [(3, ((12 : Nat) : Int))]) (r := []) (x := 82) (ls0 := [(2, 82), (3, ((12 : Nat) : Int))]) gz_62_22 gm_40 rfl is_82 rd_5 rfl rfl rfl rfl rfl (c_Reader_takeWord_f0 (d := d) (x1 := ((12 : Nat) : Int)) (by decide) (ev16.symm.trans (by omega)) (fun h18 frh18 w19 w20 => ?_) (fun h21 frh21 w22 => ?_))
    ·
      have gh18 : my_fr [(4, 4), (4, 5), (4, 7), (4, 8), (4, 9), (5, 5), (5, 6), (5, 7), (5, 8), (5, 9), (32, -1), (33, -1), (34, -1), (35, -1), (37, -1)] h h18 := my_fr.tr gh6 (frh18.mo rfl)
      have Ln_h18 : Ln h18 := Ln_ag (my_ag.fr frh18 rfl) Ln_h6
      have Sp_h18 : Sp h18 wv := Sp_ag (my_ag.fr frh18 rfl) hwv Ln_h6 Sp_h6
      have St5_h18 : St5 h18 := St5_ag (my_ag.fr frh18 rfl) Ln_h6 St5_h6
      show wp l rho (d + 3) 62 25 [(2, 82), (0, v7), (9, 0)] [(0, 0)] h18 Q
      refine w_ifne (t := 29) gz_62_25 rfl (fun u23 => by exfalso; omega) (fun u23 => ?_)
      have c24 := (rfl : h18 82 9 = h18 82 9)
      exact w_vret gz_62_28 gm_62 (k0 h18 (gh18) (by omega) (by omega) Ln_h18 Sp_h18)
    ·
      have gh21 : my_fr [(4, 4), (4, 5), (4, 7), (4, 8), (4, 9), (5, 5), (5, 6), (5, 7), (5, 8), (5, 9), (32, -1), (33, -1), (34, -1), (35, -1), (37, -1)] h h21 := my_fr.tr gh6 (frh21.mo rfl)
      have Ln_h21 : Ln h21 := Ln_ag (my_ag.fr frh21 rfl) Ln_h6
      have Sp_h21 : Sp h21 wv := Sp_ag (my_ag.fr frh21 rfl) hwv Ln_h6 Sp_h6
      have St5_h21 : St5 h21 := St5_ag (my_ag.fr frh21 rfl) Ln_h6 St5_h6
      show wp l rho (d + 3) 62 25 [(2, 82), (0, v7), (9, 0)] [(0, 1)] h21 Q
      refine w_ifne (t := 29) gz_62_25 rfl (fun u25 => ?_) (fun u25 => by exfalso; omega)
      refine w_aload_n gz_62_29 rfl ?_
      refine w_aload_n gz_62_30 rfl ?_
      refine v_getR (j := 2) gz_62_31 rfl is_82 rd_5 rfl (fun v26 ev26 tv26 => ?_)
      have zv26 : v1 = v26 := (ev26.trans ((my_fr.at frh21 is_82 rfl).trans ((my_fr.at frh6 is_82 rfl).trans ev1.symm))).symm
      subst zv26
      refine v_getI (j := 4) gz_62_34 rfl tv1 rd_4 rfl (fun v27 ev27 pv27 qv27 => ?_)
      have zv27 := ev27.trans ((my_fr.at frh21 tv1 rfl).trans ((my_fr.at frh6 tv1 rfl).trans ev2.symm))
      refine w_inv (k := 0) (as := [(0, v27)]) (r := []) (x := 82) (ls0 := [(2, 82), (0, v27)]) gz_62_37 gm_44 rfl is_82 rd_5 rfl rfl rfl rfl rfl ?_
      refine w_aload_n gz_44_0 rfl ?_
      refine v_getI (j := 6) gz_44_1 rfl is_82 rd_5 rfl (fun v28 ev28 pv28 qv28 => ?_)
      refine w_iconst gz_44_4 (by decide) ?_
      refine w_iceq (t := 15) gz_44_5 rfl (fun u29 => ?_) (fun u29 => ?_)
      ·
        refine w_aload_n gz_44_15 rfl ?_
        refine v_getI (j := 8) gz_44_16 rfl is_82 rd_5 rfl (fun v30 ev30 pv30 qv30 => ?_)
        refine w_iload_n gz_44_19 rfl ?_
        refine w_iclt (t := 30) gz_44_20 rfl (fun u31 => ?_) (fun u31 => ?_)
        ·
          refine w_aload_n gz_44_30 rfl ?_
          refine v_getI (j := 9) gz_44_31 rfl is_82 rd_5 rfl (fun v32 ev32 pv32 qv32 => ?_)
          have zv32 := ev32.trans w22
          refine w_ifne (t := 44) gz_44_34 rfl (fun u33 => by exfalso; omega) (fun u33 => ?_)
          refine w_aload_n gz_44_37 rfl ?_
          refine v_getI (j := 8) gz_44_38 rfl is_82 rd_5 rfl (fun v34 ev34 pv34 qv34 => ?_)
          have zv34 := ev34.trans ev30.symm
          refine w_goto (t := 45) gz_44_41 rfl ?_
          refine w_iret gz_44_45 gm_44 ?_
          show wp l rho (d + 3) 62 40 [(2, 82), (0, v7), (9, 0)] [(0, v34)] h21 Q
          refine w_istore_n (ls' := [(2, 82), (0, v7), (0, v34)]) gz_62_40 gm_62 rfl rfl rfl ?_
          refine w_iload_n gz_62_41 rfl ?_
          refine w_iconst gz_62_42 (by decide) ?_
          refine w_iceq (t := 59) gz_62_43 rfl (fun u35 => by exfalso; omega) (fun u35 => ?_)
          refine w_iload_n gz_62_46 rfl ?_
          refine w_iload_n gz_62_47 rfl ?_
          refine w_icne (t := 59) gz_62_48 rfl (fun u36 => ?_) (fun u36 => ?_)
          ·
            refine w_iload_n gz_62_59 rfl ?_
            refine w_iconst gz_62_60 (by decide) ?_
            refine w_iceq (t := 84) gz_62_61 rfl (fun u37 => by exfalso; omega) (fun u37 => ?_)
            refine w_aload_n gz_62_64 rfl ?_
            refine w_inv (k := 2) (as := []) (r := []) (x := 82) (ls0 := [(2, 82), (9, 0), (9, 0)]) gz_62_65 gm_37 rfl is_82 rd_5 rfl rfl rfl rfl rfl (c_Reader_nextToken_f0 (d := (d + 1))  (ev32.symm.trans (by omega)) (fun h38 frh38 w39 w40 w41 => ?_))
            have gh38 : my_fr [(4, 4), (4, 5), (4, 7), (4, 8), (4, 9), (5, 5), (5, 6), (5, 7), (5, 8), (5, 9), (32, -1), (33, -1), (34, -1), (35, -1), (37, -1)] h h38 := my_fr.tr gh21 (frh38.mo rfl)
            have Ln_h38 : Ln h38 := Ln_ag (my_ag.fr frh38 rfl) Ln_h21
            have Sp_h38 : Sp h38 wv := Sp_ag (my_ag.fr frh38 rfl) hwv Ln_h21 Sp_h21
            have St5_h38 : St5 h38 := St5_ag (my_ag.fr frh38 rfl) Ln_h21 St5_h21
            show wp l rho (d + 3) 62 68 [(2, 82), (0, v7), (0, v34)] [] h38 Q
            refine w_aload_n gz_62_68 rfl ?_
            refine w_inv (k := 0) (as := []) (r := []) (x := 82) (ls0 := [(2, 82)]) gz_62_69 gm_47 rfl is_82 rd_5 rfl rfl rfl rfl rfl (c_Reader_endsHere_f0 (d := d)  (((my_fr.at frh38 is_82 rfl).trans ev32.symm).trans (by omega)) (fun h42 frh42 w43 w44 => ?_) (fun h45 frh45 w46 => ?_))
            ·
              have gh42 : my_fr [(4, 4), (4, 5), (4, 7), (4, 8), (4, 9), (5, 5), (5, 6), (5, 7), (5, 8), (5, 9), (32, -1), (33, -1), (34, -1), (35, -1), (37, -1)] h h42 := my_fr.tr gh38 (frh42.mo rfl)
              have Ln_h42 : Ln h42 := Ln_ag (my_ag.fr frh42 rfl) Ln_h38
              have Sp_h42 : Sp h42 wv := Sp_ag (my_ag.fr frh42 rfl) hwv Ln_h38 Sp_h38
              have St5_h42 : St5 h42 := St5_ag (my_ag.fr frh42 rfl) Ln_h38 St5_h38
              show wp l rho (d + 3) 62 72 [(2, 82), (0, v7), (0, v34)] [(0, 0)] h42 Q
              refine w_ifeq (t := 84) gz_62_72 rfl (fun u47 => ?_) (fun u47 => by exfalso; omega)
              have c48 := (rfl : h42 82 9 = h42 82 9)
              exact w_vret gz_62_84 gm_62 (k0 h42 (gh42) (by omega) (by omega) Ln_h42 Sp_h42)
            ·
              have gh45 : my_fr [(4, 4), (4, 5), (4, 7), (4, 8), (4, 9), (5, 5), (5, 6), (5, 7), (5, 8), (5, 9), (32, -1), (33, -1), (34, -1), (35, -1), (37, -1)] h h45 := my_fr.tr gh38 (frh45.mo rfl)
              have Ln_h45 : Ln h45 := Ln_ag (my_ag.fr frh45 rfl) Ln_h38
              have Sp_h45 : Sp h45 wv := Sp_ag (my_ag.fr frh45 rfl) hwv Ln_h38 Sp_h38
              have St5_h45 : St5 h45 := St5_ag (my_ag.fr frh45 rfl) Ln_h38 St5_h38
              show wp l rho (d + 3) 62 72 [(2, 82), (0, v7), (0, v34)] [(0, 1)] h45 Q
              refine w_ifeq (t := 84) gz_62_72 rfl (fun u49 => by exfalso; omega) (fun u49 => ?_)
              refine w_aload_n gz_62_75 rfl ?_
              refine v_getR (j := 2) gz_62_76 rfl is_82 rd_5 rfl (fun v50 ev50 tv50 => ?_)
              have zv50 : v1 = v50 := (ev50.trans ((my_fr.at frh45 is_82 rfl).trans ((my_fr.at frh38 is_82 rfl).trans ((my_fr.at frh21 is_82 rfl).trans ((my_fr.at frh6 is_82 rfl).trans ev1.symm))))).symm
              subst zv50
              refine w_iload_n gz_62_79 rfl ?_
              refine w_iload_n gz_62_80 rfl ?_
              have ce51 : h45 82 2 = v1 := ((my_fr.at frh45 is_82 rfl).trans ((my_fr.at frh38 is_82 rfl).trans ((my_fr.at frh21 is_82 rfl).trans ((my_fr.at frh6 is_82 rfl).trans ev1.symm))))
              have s5a := St5_h45
              have s5e : v1 = h45 82 2 := by first | assumption | omega
              unfold St5 at s5a
              rw [← s5e] at s5a
              refine w_inv (k := 0) (as := [(0, v34), (0, v7)]) (r := []) (x := v1) (ls0 := [(2, v1), (0, v7), (0, v34)]) gz_62_81 gm_63 rfl tv1 rd_4 rfl rfl rfl rfl rfl (c_Lens_addSum (d := (d + 1)) (x0 := v1) (x1 := v7) (x2 := v34) tv1 (by omega) (by omega) (by omega) (by omega) (by first | assumption | omega | (subst_vars; omega)) (fun h52 frh52 fxh52 w53 w54 w55 w56 xp57 => ?_))
              have gh52 : my_fr [(4, 4), (4, 5), (4, 7), (4, 8), (4, 9), (5, 5), (5, 6), (5, 7), (5, 8), (5, 9), (32, -1), (33, -1), (34, -1), (35, -1), (37, -1)] h h52 := my_fr.tr gh45 (frh52.mo rfl)
              have Ln_h52 : Ln h52 := Ln_fx fxh52 (by first | assumption | omega) Ln_h45
              show wp l rho (d + 3) 62 84 [(2, 82), (0, v7), (0, v34)] [] h52 Q
              have Sp_h52t58 : Sp h52 wv := Sp_add fxh52 (by first | assumption | omega) hwv Ln_h45 Sp_h45 xp57 (by have := St5_h45.1; omega) (by omega) (by omega)
              have c59 := ((my_fr.at frh52 is_82 rfl).trans w46)
              exact w_vret gz_62_84 gm_62 (k1 h52 (gh52) (by omega) Ln_h52 Sp_h52t58)
          ·
            refine w_aload_n gz_62_51 rfl ?_
            refine w_iconst gz_62_52 (by decide) ?_
            refine w_inv (k := 0) (as := [(0, 3)]) (r := []) (x := 82) (ls0 := [(2, 82), (0, 3)]) gz_62_53 gm_42 rfl is_82 rd_5 rfl rfl rfl rfl rfl ?_
            refine w_aload_n gz_42_0 rfl ?_
            refine v_getI (j := 9) gz_42_1 rfl is_82 rd_5 rfl (fun v60 ev60 pv60 qv60 => ?_)
            have zv60 := ev60.trans ev32.symm
            refine w_ifne (t := 20) gz_42_4 rfl (fun u61 => by exfalso; omega) (fun u61 => ?_)
            refine w_aload_n gz_42_7 rfl ?_
            refine w_iload_n gz_42_8 rfl ?_
            refine w_bipush gz_42_9 (by decide) ?_
            refine w_aload_n gz_42_11 rfl ?_
            refine v_getI (j := 7) gz_42_12 rfl is_82 rd_5 rfl (fun v62 ev62 pv62 qv62 => ?_)
            refine w_imul gz_42_15 ⟨by omega, by omega⟩ ?_
            refine w_iadd gz_42_16 ⟨by omega, by omega⟩ ?_
            refine v_putI (j := 9) gz_42_17 rfl is_82 rd_5 rfl (by omega) (by omega) rfl (fun h63 fh63 => ?_)
            have gh63 : my_fr [(4, 4), (4, 5), (4, 7), (4, 8), (4, 9), (5, 5), (5, 6), (5, 7), (5, 8), (5, 9), (32, -1), (33, -1), (34, -1), (35, -1), (37, -1)] h h63 := my_fr.up gh21 is_82 fh63 rfl
            have Ln_h63 : Ln h63 := Ln_ag (my_ag.up fh63 is_82 rfl) Ln_h21
            have Sp_h63 : Sp h63 wv := Sp_ag (my_ag.up fh63 is_82 rfl) hwv Ln_h21 Sp_h21
            have St5_h63 : St5 h63 := St5_ag (my_ag.up fh63 is_82 rfl) Ln_h21 St5_h21
            refine w_vret gz_42_20 gm_42 ?_
            show wp l rho (d + 3) 62 56 [(2, 82), (0, v7), (0, v34)] [] h63 Q
            refine w_goto (t := 84) gz_62_56 rfl ?_
            have c64 := (my_up_self fh63)
            exact w_vret gz_62_84 gm_62 (k0 h63 (gh63) (by omega) (by omega) Ln_h63 Sp_h63)
        ·
          refine w_aload_n gz_44_23 rfl ?_
          refine w_iconst gz_44_24 (by decide) ?_
          refine w_inv (k := 0) (as := [(0, 4)]) (r := []) (x := 82) (ls0 := [(2, 82), (0, 4)]) gz_44_25 gm_42 rfl is_82 rd_5 rfl rfl rfl rfl rfl ?_
          refine w_aload_n gz_42_0 rfl ?_
          refine v_getI (j := 9) gz_42_1 rfl is_82 rd_5 rfl (fun v65 ev65 pv65 qv65 => ?_)
          have zv65 := ev65.trans w22
          refine w_ifne (t := 20) gz_42_4 rfl (fun u66 => by exfalso; omega) (fun u66 => ?_)
          refine w_aload_n gz_42_7 rfl ?_
          refine w_iload_n gz_42_8 rfl ?_
          refine w_bipush gz_42_9 (by decide) ?_
          refine w_aload_n gz_42_11 rfl ?_
          refine v_getI (j := 7) gz_42_12 rfl is_82 rd_5 rfl (fun v67 ev67 pv67 qv67 => ?_)
          refine w_imul gz_42_15 ⟨by omega, by omega⟩ ?_
          refine w_iadd gz_42_16 ⟨by omega, by omega⟩ ?_
          refine v_putI (j := 9) gz_42_17 rfl is_82 rd_5 rfl (by omega) (by omega) rfl (fun h68 fh68 => ?_)
          have gh68 : my_fr [(4, 4), (4, 5), (4, 7), (4, 8), (4, 9), (5, 5), (5, 6), (5, 7), (5, 8), (5, 9), (32, -1), (33, -1), (34, -1), (35, -1), (37, -1)] h h68 := my_fr.up gh21 is_82 fh68 rfl
          have Ln_h68 : Ln h68 := Ln_ag (my_ag.up fh68 is_82 rfl) Ln_h21
          have Sp_h68 : Sp h68 wv := Sp_ag (my_ag.up fh68 is_82 rfl) hwv Ln_h21 Sp_h21
          have St5_h68 : St5 h68 := St5_ag (my_ag.up fh68 is_82 rfl) Ln_h21 St5_h21
          refine w_vret gz_42_20 gm_42 ?_
          show wp l rho (d + 2) 44 28 [(2, 82), (0, v27)] [] h68 _
          refine w_iconst gz_44_28 (by decide) ?_
          refine w_iret gz_44_29 gm_44 ?_
          show wp l rho (d + 3) 62 40 [(2, 82), (0, v7), (9, 0)] [(0, (-1))] h68 Q
          refine w_istore_n (ls' := [(2, 82), (0, v7), (0, (-1))]) gz_62_40 gm_62 rfl rfl rfl ?_
          refine w_iload_n gz_62_41 rfl ?_
          refine w_iconst gz_62_42 (by decide) ?_
          refine w_iceq (t := 59) gz_62_43 rfl (fun u69 => ?_) (fun u69 => by exfalso; omega)
          refine w_iload_n gz_62_59 rfl ?_
          refine w_iconst gz_62_60 (by decide) ?_
          refine w_iceq (t := 84) gz_62_61 rfl (fun u70 => ?_) (fun u70 => by exfalso; omega)
          have c71 := (my_up_self fh68)
          exact w_vret gz_62_84 gm_62 (k0 h68 (gh68) (by omega) (by omega) Ln_h68 Sp_h68)
      ·
        refine w_aload_n gz_44_8 rfl ?_
        refine w_iconst gz_44_9 (by decide) ?_
        refine w_inv (k := 0) (as := [(0, 1)]) (r := []) (x := 82) (ls0 := [(2, 82), (0, 1)]) gz_44_10 gm_42 rfl is_82 rd_5 rfl rfl rfl rfl rfl ?_
        refine w_aload_n gz_42_0 rfl ?_
        refine v_getI (j := 9) gz_42_1 rfl is_82 rd_5 rfl (fun v72 ev72 pv72 qv72 => ?_)
        have zv72 := ev72.trans w22
        refine w_ifne (t := 20) gz_42_4 rfl (fun u73 => by exfalso; omega) (fun u73 => ?_)
        refine w_aload_n gz_42_7 rfl ?_
        refine w_iload_n gz_42_8 rfl ?_
        refine w_bipush gz_42_9 (by decide) ?_
        refine w_aload_n gz_42_11 rfl ?_
        refine v_getI (j := 7) gz_42_12 rfl is_82 rd_5 rfl (fun v74 ev74 pv74 qv74 => ?_)
        refine w_imul gz_42_15 ⟨by omega, by omega⟩ ?_
        refine w_iadd gz_42_16 ⟨by omega, by omega⟩ ?_
        refine v_putI (j := 9) gz_42_17 rfl is_82 rd_5 rfl (by omega) (by omega) rfl (fun h75 fh75 => ?_)
        have gh75 : my_fr [(4, 4), (4, 5), (4, 7), (4, 8), (4, 9), (5, 5), (5, 6), (5, 7), (5, 8), (5, 9), (32, -1), (33, -1), (34, -1), (35, -1), (37, -1)] h h75 := my_fr.up gh21 is_82 fh75 rfl
        have Ln_h75 : Ln h75 := Ln_ag (my_ag.up fh75 is_82 rfl) Ln_h21
        have Sp_h75 : Sp h75 wv := Sp_ag (my_ag.up fh75 is_82 rfl) hwv Ln_h21 Sp_h21
        have St5_h75 : St5 h75 := St5_ag (my_ag.up fh75 is_82 rfl) Ln_h21 St5_h21
        refine w_vret gz_42_20 gm_42 ?_
        show wp l rho (d + 2) 44 13 [(2, 82), (0, v27)] [] h75 _
        refine w_iconst gz_44_13 (by decide) ?_
        refine w_iret gz_44_14 gm_44 ?_
        show wp l rho (d + 3) 62 40 [(2, 82), (0, v7), (9, 0)] [(0, (-1))] h75 Q
        refine w_istore_n (ls' := [(2, 82), (0, v7), (0, (-1))]) gz_62_40 gm_62 rfl rfl rfl ?_
        refine w_iload_n gz_62_41 rfl ?_
        refine w_iconst gz_62_42 (by decide) ?_
        refine w_iceq (t := 59) gz_62_43 rfl (fun u76 => ?_) (fun u76 => by exfalso; omega)
        refine w_iload_n gz_62_59 rfl ?_
        refine w_iconst gz_62_60 (by decide) ?_
        refine w_iceq (t := 84) gz_62_61 rfl (fun u77 => ?_) (fun u77 => by exfalso; omega)
        have c78 := (my_up_self fh75)
        exact w_vret gz_62_84 gm_62 (k0 h75 (gh75) (by omega) (by omega) Ln_h75 Sp_h75)
theorem c_View_load {l : Launch} {rho : Nat → Int32} {d : Nat} {h : my_H} {Q : my_H → my_V → Prop} {x0 x1 x2 x3 x4 : Int} (t0 : my_is 8 x0) (t1 : my_is 6 x1) (a2 : 0 ≤ x2) (b2 : x2 ≤ 2) (m2_0 : 0 ≤ x2 % 17) (m2_1 : x2 % 17 ≤ 2) (a3 : 0 ≤ x3) (b3 : x3 ≤ 4) (m3_0 : 0 ≤ x3 % 17) (m3_1 : x3 % 17 ≤ 4) (k0 : ∀ (h' : my_H), my_fr [(8, 0), (8, 1), (42, -1), (44, -1)] h h' → my_fx x0 3 h h' → 0 ≤ h' x0 0 → h' x0 0 ≤ 10 → 0 ≤ h' x0 1 → h' x0 1 ≤ 4 → h' x0 1 = x3 → h' x0 0 ≤ 10 → Q h' (9, 0)) : wp l rho (d + 1) 68 0 [(2, x0), (2, x1), (0, x2), (0, x3), (0, x4), (9, 0), (9, 0)] [] h Q := by
  have J13_0 : ∀ (n : Nat) (p13_0 p13_1 : Int) (h13_0 : my_H), my_fr [(8, 0), (8, 1), (42, -1), (44, -1)] h h13_0 → my_fx x0 3 h h13_0 → 0 ≤ p13_0 → p13_0 ≤ 20 → 0 ≤ p13_1 → p13_1 ≤ 10 → p13_1 ≤ p13_0 → h13_0 x0 0 = p13_1 → h13_0 x0 1 = x3 → h13_0 x0 1 = x3 → 21 - p13_0 ≤ (n : Int) → wp l rho (d + 1) 68 13 [(2, x0), (2, x1), (0, x2), (0, x3), (0, x4), (0, p13_0), (9, 0)] [] h13_0 Q := by
    intro n
    induction n with
    | zero => intro p13_0 p13_1 h13_0 gh_13_0 gx_13_0 q0_13_0 q1_13_0 q2_13_0 q3_13_0 q4_13_0 ca0_0_13_0 ca0_1_13_0 lc_13_0 hm_13_0; exfalso; omega
    | succ n ih_13_0 =>
      intro p13_0 p13_1 h13_0 gh_13_0 gx_13_0 q0_13_0 q1_13_0 q2_13_0 q3_13_0 q4_13_0 ca0_0_13_0 ca0_1_13_0 lc_13_0 hm_13_0
      have J117_0 : ∀ (p117_0 p117_1 : Int) (h117_0 : my_H), my_fr [(8, 0), (8, 1), (42, -1), (44, -1)] h h117_0 → my_fx x0 3 h h117_0 → p13_0 ≤ 19 → 0 ≤ p117_0 → p117_0 ≤ 236 → 0 ≤ p117_1 → p117_1 ≤ 10 → p13_1 ≤ 9 → p117_1 ≤ (p13_0 + 1) → p117_1 ≤ (p13_1 + 1) → p13_1 ≤ p117_1 → p13_1 ≤ p13_0 → h117_0 x0 0 = p117_1 → h117_0 x0 1 = x3 → wp l rho (d + 1) 68 117 [(2, x0), (2, x1), (0, x2), (0, x3), (0, x4), (0, p13_0), (0, p117_0)] [] h117_0 Q := by
        intro p117_0 p117_1 h117_0 gh_117_0 gx_117_0 q0_117_0 q1_117_0 q2_117_0 q3_117_0 q4_117_0 q5_117_0 q6_117_0 q7_117_0 q8_117_0 q9_117_0 ca0_0_117_0 ca0_1_117_0
        refine w_iinc (ls' := [(2, x0), (2, x1), (0, x2), (0, x3), (0, x4), (0, (p13_0 + 1)), (0, p117_0)]) gz_68_117 rfl gm_68 rfl rfl rfl ⟨by omega, by omega⟩ ?_
        refine w_goto (t := 13) gz_68_120 rfl ?_
        have ce1 : h117_0 x0 1 = x3 := ca0_1_117_0
        refine w_weak (ls' := [(2, x0), (2, x1), (0, x2), (0, x3), (0, x4), (0, (p13_0 + 1)), (9, 0)]) (wk_e (wk_e (wk_e (wk_e (wk_e (wk_e (wk_9 wk_n))))))) ?_
        exact ih_13_0 ((p13_0 + 1)) (p117_1) h117_0 (gh_117_0) (gx_117_0) (by omega) (by omega) (by omega) (by omega) (by omega) (ca0_0_117_0.trans (by omega)) (ca0_1_117_0.trans (by omega)) (by first | assumption | omega | (subst_vars; omega)) (by omega)
      refine w_iload gz_68_13 rfl ?_
      refine w_bipush gz_68_15 (by decide) ?_
      refine w_icge (t := 123) gz_68_17 rfl (fun u2 => ?_) (fun u2 => ?_)
      ·
        have ce3 : h13_0 x0 0 = p13_1 := ca0_0_13_0
        have ce4 : h13_0 x0 1 = x3 := ca0_1_13_0
        have c5 := ca0_0_13_0
        have c6 := ca0_1_13_0
        exact w_vret gz_68_123 gm_68 (k0 h13_0 (gh_13_0) (gx_13_0) (by omega) (by omega) (by omega) (by omega) (by first | assumption | omega | (subst_vars; omega)) (by first | assumption | omega | (subst_vars; omega)))
      ·
        refine w_aload_n gz_68_20 rfl ?_
        refine v_getI (j := 0) gz_68_21 rfl t0 rd_8 rfl (fun v7 ev7 pv7 qv7 => ?_)
        have zv7 := ev7.trans ca0_0_13_0
        refine w_bipush gz_68_24 (by decide) ?_
        refine w_icge (t := 123) gz_68_26 rfl (fun u8 => ?_) (fun u8 => ?_)
        ·
          have ce9 : h13_0 x0 0 = v7 := ev7.symm
          have ce10 : h13_0 x0 1 = x3 := ca0_1_13_0
          have c11 := ev7.symm
          have c12 := ca0_1_13_0
          exact w_vret gz_68_123 gm_68 (k0 h13_0 (gh_13_0) (gx_13_0) (by omega) (by omega) (by omega) (by omega) (by first | assumption | omega | (subst_vars; omega)) (by first | assumption | omega | (subst_vars; omega)))
        ·
          refine w_iload_n gz_68_29 rfl ?_
          refine w_iload gz_68_30 rfl ?_
          refine w_inS (k := 0) (as := [(0, p13_0), (0, x2)]) (r := []) (ls0 := [(0, x2), (0, p13_0)]) gz_68_32 gm_17 rfl rfl rfl rfl rfl rfl ?_
          refine w_iload_n gz_17_0 rfl ?_
          refine w_bipush gz_17_1 (by decide) ?_
          refine w_imul gz_17_3 ⟨by omega, by omega⟩ ?_
          refine w_iload_n gz_17_4 rfl ?_
          refine w_iadd gz_17_5 ⟨by omega, by omega⟩ ?_
          refine w_iconst gz_17_6 (by decide) ?_
          refine w_imul gz_17_7 ⟨by omega, by omega⟩ ?_
          refine w_iret gz_17_8 gm_17 ?_
          show wp l rho (d + 1) 68 35 [(2, x0), (2, x1), (0, x2), (0, x3), (0, x4), (0, p13_0), (9, 0)] [(0, (((x2 * 20) + p13_0) * 4))] h13_0 Q
          refine w_istore (ls' := [(2, x0), (2, x1), (0, x2), (0, x3), (0, x4), (0, p13_0), (0, (((x2 * 20) + p13_0) * 4))]) gz_68_35 gm_68 rfl rfl rfl ?_
          refine w_aload_n gz_68_37 rfl ?_
          refine w_getX (v := (x1 + 1)) gz_68_38 t1 rd_6 rfl (by decide) rfl ?_
          refine w_iload gz_68_41 rfl ?_
          refine w_iald gz_68_43 (ix_6_1 t1) rd_30 (by omega) (by omega) (fun v14 ev14 pv14 qv14 => ?_)
          refine w_iconst gz_68_44 (by decide) ?_
          refine w_iceq (t := 117) gz_68_45 rfl (fun u15 => ?_) (fun u15 => ?_)
          ·
            exact J117_0 ((((x2 * 20) + p13_0) * 4)) (v7) h13_0 (gh_13_0) (gx_13_0) (by omega) (by omega) (by omega) (by omega) (by omega) (by omega) (by omega) (by omega) (by omega) (by omega) (ev7.symm.trans (by omega)) (ca0_1_13_0.trans (by omega))
          ·
            refine w_iload gz_68_48 rfl ?_
            refine w_i2l gz_68_50 ?_
            refine w_iload gz_68_51 rfl ?_
            refine w_inS (k := 0) (as := [(0, p13_0), (1, x4)]) (r := []) (ls0 := [(1, x4), (9, 0), (0, p13_0)]) gz_68_53 gm_69 rfl rfl rfl rfl rfl rfl ?_
            refine w_lload_n gz_69_0 rfl ?_
            refine w_iload_n gz_69_1 rfl ?_
            refine w_jshf gz_69_2 (fun _ => rfl) rfl (fun v16 pv16 => ?_)
            refine w_lconst gz_69_3 ?_
            refine w_jany2 gz_69_4 (fun _ => rfl) rfl (fun v17 pv17 => ?_)
            refine w_lconst gz_69_5 ?_
            refine w_lcmp gz_69_6 (fun v18 pv18 qv18 => ?_)
            refine w_ifeq (t := 14) gz_69_7 rfl (fun u19 => ?_) (fun u19 => ?_)
            ·
              refine w_iconst gz_69_14 (by decide) ?_
              refine w_bret gz_69_15 gm_69 (by omega) (by omega) ?_
              show wp l rho (d + 1) 68 56 [(2, x0), (2, x1), (0, x2), (0, x3), (0, x4), (0, p13_0), (0, (((x2 * 20) + p13_0) * 4))] [(0, 0)] h13_0 Q
              refine w_ifeq (t := 117) gz_68_56 rfl (fun u20 => ?_) (fun u20 => by exfalso; omega)
              exact J117_0 ((((x2 * 20) + p13_0) * 4)) (v7) h13_0 (gh_13_0) (gx_13_0) (by omega) (by omega) (by omega) (by omega) (by omega) (by omega) (by omega) (by omega) (by omega) (by omega) (ev7.symm.trans (by omega)) (ca0_1_13_0.trans (by omega))
            ·
              refine w_iconst gz_69_10 (by decide) ?_
              refine w_goto (t := 15) gz_69_11 rfl ?_
              refine w_bret gz_69_15 gm_69 (by omega) (by omega) ?_
              show wp l rho (d + 1) 68 56 [(2, x0), (2, x1), (0, x2), (0, x3), (0, x4), (0, p13_0), (0, (((x2 * 20) + p13_0) * 4))] [(0, 1)] h13_0 Q
              refine w_ifeq (t := 117) gz_68_56 rfl (fun u21 => by exfalso; omega) (fun u21 => ?_)
              refine w_aload_n gz_68_59 rfl ?_
              refine w_aload_n gz_68_60 rfl ?_
              refine w_iload gz_68_61 rfl ?_
              refine w_aload_n gz_68_63 rfl ?_
              refine v_getI (j := 0) gz_68_64 rfl t0 rd_8 rfl (fun v22 ev22 pv22 qv22 => ?_)
              have zv22 := ev22.trans ev7.symm
              refine w_bipush gz_68_67 (by decide) ?_
              refine w_imul gz_68_69 ⟨by omega, by omega⟩ ?_
              refine w_iload_n gz_68_70 rfl ?_
              refine w_inv (k := 1) (as := [(0, x3), (0, (v22 * 17)), (0, (((x2 * 20) + p13_0) * 4)), (2, x1)]) (r := []) (x := x0) (ls0 := [(2, x0), (2, x1), (0, (((x2 * 20) + p13_0) * 4)), (0, (v22 * 17)), (0, x3), (9, 0)]) gz_68_71 gm_70 rfl t0 rd_8 rfl rfl rfl rfl rfl (c_View_copyCells (d := d) (x0 := x0) (x1 := x1) (x2 := (((x2 * 20) + p13_0) * 4)) (x3 := (v22 * 17)) (x4 := x3) t0 t1 (by omega) (by omega) (by omega) (by omega) (by omega) (by omega) (by omega) (by omega) (by omega) (by omega) (by first | assumption | omega | (subst_vars; omega)) (by first | assumption | omega | (subst_vars; omega)) (fun h23 frh23 fxh23 => ?_))
              have gh23 : my_fr [(8, 0), (8, 1), (42, -1), (44, -1)] h h23 := my_fr.tr gh_13_0 (frh23.mo rfl)
              have gxh23 : my_fx x0 3 h h23 := my_fx.tr gx_13_0 fxh23
              show wp l rho (d + 1) 68 74 [(2, x0), (2, x1), (0, x2), (0, x3), (0, x4), (0, p13_0), (0, (((x2 * 20) + p13_0) * 4))] [] h23 Q
              refine w_aload_n gz_68_74 rfl ?_
              refine w_getX (v := (x0 + 1)) gz_68_75 t0 rd_8 rfl (by decide) rfl ?_
              refine w_aload_n gz_68_78 rfl ?_
              refine v_getI (j := 0) gz_68_79 rfl t0 rd_8 rfl (fun v25 ev25 pv25 qv25 => ?_)
              have zv25 := ev25.trans ((my_fr.at frh23 t0 rfl).trans ev22.symm)
              refine w_bipush gz_68_82 (by decide) ?_
              refine w_imul gz_68_84 ⟨by omega, by omega⟩ ?_
              refine w_bipush gz_68_85 (by decide) ?_
              refine w_iadd gz_68_87 ⟨by omega, by omega⟩ ?_
              refine w_iload gz_68_88 rfl ?_
              refine w_gstT gz_68_90 (ix_8_1 t0) rd_42 (by omega) (by omega) (by omega) (by omega) (by omega) (fun h26 fh26 => ?_)
              have gh26 : my_fr [(8, 0), (8, 1), (42, -1), (44, -1)] h h26 := my_fr.up gh23 (ix_8_1 t0) fh26 rfl
              have gxh26 : my_fx x0 3 h h26 := my_fx.up gxh23 fh26 (by omega)
              refine w_aload_n gz_68_91 rfl ?_
              refine w_getX (v := (x0 + 3)) gz_68_92 t0 rd_8 rfl (by decide) rfl ?_
              refine w_iload gz_68_95 rfl ?_
              refine w_lconst gz_68_97 ?_
              refine w_iload_n gz_68_98 rfl ?_
              refine w_bipush gz_68_99 (by decide) ?_
              refine w_imul gz_68_101 ⟨by omega, by omega⟩ ?_
              refine w_iload gz_68_102 rfl ?_
              refine w_iadd gz_68_104 ⟨by omega, by omega⟩ ?_
              refine w_jshf gz_68_105 (fun _ => rfl) rfl (fun v28 pv28 => ?_)
              refine w_last gz_68_106 (ix_8_3 t0) rd_44 (by omega) (by omega) (fun h29 fh29 => ?_)
              have gh29 : my_fr [(8, 0), (8, 1), (42, -1), (44, -1)] h h29 := my_fr.up gh26 (ix_8_3 t0) fh29 rfl
              have gxh29 : my_fx x0 3 h h29 := my_fx.up gxh26 fh29 (by omega)
              refine w_aload_n gz_68_107 rfl ?_
              refine w_dup gz_68_108 rfl ?_
              refine v_getI (j := 0) gz_68_109 rfl t0 rd_8 rfl (fun v30 ev30 pv30 qv30 => ?_)
              have zv30 := ev30.trans ((my_up_role fh29 t0 (ix_8_3 t0) rfl).trans ((my_up_role fh26 t0 (ix_8_1 t0) rfl).trans ev25.symm))
              refine w_iconst gz_68_112 (by decide) ?_
              refine w_iadd gz_68_113 ⟨by omega, by omega⟩ ?_
              refine v_putI (j := 0) gz_68_114 rfl t0 rd_8 rfl (by omega) (by omega) rfl (fun h31 fh31 => ?_)
              have gh31 : my_fr [(8, 0), (8, 1), (42, -1), (44, -1)] h h31 := my_fr.up gh29 t0 fh31 rfl
              have gxh31 : my_fx x0 3 h h31 := my_fx.up gxh29 fh31 (by omega)
              exact J117_0 ((((x2 * 20) + p13_0) * 4)) ((v30 + 1)) h31 (gh31) (gxh31) (by omega) (by omega) (by omega) (by omega) (by omega) (by omega) (by omega) (by omega) (by omega) (by omega) ((my_up_self fh31).trans (by omega)) (((my_up_fld fh31 (by decide)).trans ((my_up_role fh29 t0 (ix_8_3 t0) rfl).trans ((my_up_role fh26 t0 (ix_8_1 t0) rfl).trans ((my_fr.at frh23 t0 rfl).trans ca0_1_13_0)))).trans (by omega))
  refine w_aload_n gz_68_0 rfl ?_
  refine w_iconst gz_68_1 (by decide) ?_
  refine v_putI (j := 0) gz_68_2 rfl t0 rd_8 rfl (by omega) (by omega) rfl (fun h32 fh32 => ?_)
  have gh32 : my_fr [(8, 0), (8, 1), (42, -1), (44, -1)] h h32 := my_fr.up my_fr.rf t0 fh32 rfl
  have gxh32 : my_fx x0 3 h h32 := my_fx.up my_fx.rf fh32 (by omega)
  refine w_aload_n gz_68_5 rfl ?_
  refine w_iload_n gz_68_6 rfl ?_
  refine v_putI (j := 1) gz_68_7 rfl t0 rd_8 rfl (by omega) (by omega) rfl (fun h33 fh33 => ?_)
  have gh33 : my_fr [(8, 0), (8, 1), (42, -1), (44, -1)] h h33 := my_fr.up gh32 t0 fh33 rfl
  have gxh33 : my_fx x0 3 h h33 := my_fx.up gxh32 fh33 (by omega)
  refine w_iconst gz_68_10 (by decide) ?_
  refine w_istore (ls' := [(2, x0), (2, x1), (0, x2), (0, x3), (0, x4), (0, 0), (9, 0)]) gz_68_11 gm_68 rfl rfl rfl ?_
  have ce34 : h33 x0 1 = x3 := (my_up_self fh33)
  exact J13_0 21 (0) (0) h33 (gh33) (gxh33) (by omega) (by omega) (by omega) (by omega) (by omega) (((my_up_fld fh33 (by decide)).trans (my_up_self fh32)).trans (by omega)) ((my_up_self fh33).trans (by omega)) (by first | assumption | omega | (subst_vars; omega)) (by omega)
theorem c_View_sort {l : Launch} {rho : Nat → Int32} {d : Nat} {h : my_H} {Q : my_H → my_V → Prop} {x0 : Int} (t0 : my_is 8 x0) (k0 : ∀ (h' : my_H), my_fr [(42, -1)] h h' → my_fx x0 3 h h' → h' x0 0 = h x0 0 → h' x0 1 = h x0 1 → Q h' (9, 0)) : wp l rho (d + 2) 79 0 [(2, x0), (9, 0), (9, 0), (9, 0)] [] h Q := by
  refine v_know (x := x0) (j := 0) (b := 0) rfl t0 rd_8 rfl (fun ka0_0 eka0_0 pka0_0 qka0_0 => ?_)
  refine v_know (x := x0) (j := 1) (b := 1) rfl t0 rd_8 rfl (fun ka0_1 eka0_1 pka0_1 qka0_1 => ?_)
  have J2_0 : ∀ (n : Nat) (p2_0 : Int) (h2_0 : my_H), my_fr [(42, -1)] h h2_0 → my_fx x0 3 h h2_0 → 1 ≤ p2_0 → p2_0 ≤ 11 → p2_0 ≤ (ka0_0 + 1) → h2_0 x0 0 = ka0_0 → h2_0 x0 1 = ka0_1 → 12 - p2_0 ≤ (n : Int) → wp l rho (d + 2) 79 2 [(2, x0), (0, p2_0), (9, 0), (9, 0)] [] h2_0 Q := by
    intro n
    induction n with
    | zero => intro p2_0 h2_0 gh_2_0 gx_2_0 q0_2_0 q1_2_0 q2_2_0 ca0_0_2_0 ca0_1_2_0 hm_2_0; exfalso; omega
    | succ n ih_2_0 =>
      intro p2_0 h2_0 gh_2_0 gx_2_0 q0_2_0 q1_2_0 q2_2_0 ca0_0_2_0 ca0_1_2_0 hm_2_0
      have J98_0 : ∀ (p98_0 : Int) (h98_0 : my_H), my_fr [(42, -1)] h h98_0 → my_fx x0 3 h h98_0 → p2_0 ≤ 10 → 0 ≤ p98_0 → p98_0 ≤ 10 → 2 ≤ ka0_0 → p98_0 ≤ p2_0 → p98_0 ≤ (ka0_0 - 1) → p2_0 ≤ (ka0_0 - 1) → h98_0 x0 0 = ka0_0 → h98_0 x0 1 = ka0_1 → wp l rho (d + 2) 79 98 [(2, x0), (0, p2_0), (0, p98_0), (9, 0)] [] h98_0 Q := by
        intro p98_0 h98_0 gh_98_0 gx_98_0 q0_98_0 q1_98_0 q2_98_0 q3_98_0 q4_98_0 q5_98_0 q6_98_0 ca0_0_98_0 ca0_1_98_0
        refine w_iinc (ls' := [(2, x0), (0, (p2_0 + 1)), (0, p98_0), (9, 0)]) gz_79_98 rfl gm_79 rfl rfl rfl ⟨by omega, by omega⟩ ?_
        refine w_goto (t := 2) gz_79_101 rfl ?_
        refine w_weak (ls' := [(2, x0), (0, (p2_0 + 1)), (9, 0), (9, 0)]) (wk_e (wk_e (wk_9 (wk_9 wk_n)))) ?_
        exact ih_2_0 ((p2_0 + 1)) h98_0 (gh_98_0) (gx_98_0) (by omega) (by omega) (by omega) (ca0_0_98_0.trans (by omega)) (ca0_1_98_0.trans (by omega)) (by omega)
      have J72_0 : ∀ (n : Nat) (p72_0 p72_1 : Int) (h72_0 : my_H), my_fr [(42, -1)] h h72_0 → my_fx x0 3 h h72_0 → p2_0 ≤ 10 → 0 ≤ p72_0 → p72_0 ≤ 9 → 0 ≤ p72_1 → p72_1 ≤ 10 → 2 ≤ ka0_0 → p72_0 ≤ p72_1 → p72_0 ≤ (p2_0 - 1) → p72_0 ≤ (ka0_0 - 2) → p72_1 ≤ p2_0 → p72_1 ≤ (ka0_0 - 1) → p2_0 ≤ (ka0_0 - 1) → h72_0 x0 0 = ka0_0 → h72_0 x0 1 = ka0_1 → p72_1 - (-1) ≤ (n : Int) → wp l rho (d + 2) 79 72 [(2, x0), (0, p2_0), (0, p72_0), (0, p72_1)] [] h72_0 Q := by
        intro n
        induction n with
        | zero => intro p72_0 p72_1 h72_0 gh_72_0 gx_72_0 q0_72_0 q1_72_0 q2_72_0 q3_72_0 q4_72_0 q5_72_0 q6_72_0 q7_72_0 q8_72_0 q9_72_0 q10_72_0 q11_72_0 ca0_0_72_0 ca0_1_72_0 hm_72_0; exfalso; omega
        | succ n ih_72_0 =>
          intro p72_0 p72_1 h72_0 gh_72_0 gx_72_0 q0_72_0 q1_72_0 q2_72_0 q3_72_0 q4_72_0 q5_72_0 q6_72_0 q7_72_0 q8_72_0 q9_72_0 q10_72_0 q11_72_0 ca0_0_72_0 ca0_1_72_0 hm_72_0
          refine w_iload_n gz_79_72 rfl ?_
          refine w_iload_n gz_79_73 rfl ?_
          refine w_icle (t := 91) gz_79_74 rfl (fun u1 => ?_) (fun u1 => ?_)
          ·
            refine w_aload_n gz_79_91 rfl ?_
            refine w_bipush gz_79_92 (by decide) ?_
            refine w_iload_n gz_79_94 rfl ?_
            refine w_inv (k := 0) (as := [(0, p72_0), (0, 11)]) (r := []) (x := x0) (ls0 := [(2, x0), (0, 11), (0, p72_0)]) gz_79_95 gm_72 rfl t0 rd_8 rfl rfl rfl rfl rfl ?_
            refine w_iload_n gz_72_0 rfl ?_
            refine w_iload_n gz_72_1 rfl ?_
            refine w_iceq (t := 26) gz_72_2 rfl (fun u2 => by exfalso; omega) (fun u2 => ?_)
            refine w_aload_n gz_72_5 rfl ?_
            refine w_getX (v := (x0 + 1)) gz_72_6 t0 rd_8 rfl (by decide) rfl ?_
            refine w_iload_n gz_72_9 rfl ?_
            refine w_bipush gz_72_10 (by decide) ?_
            refine w_imul gz_72_12 ⟨by omega, by omega⟩ ?_
            refine w_aload_n gz_72_13 rfl ?_
            refine w_getX (v := (x0 + 1)) gz_72_14 t0 rd_8 rfl (by decide) rfl ?_
            refine w_iload_n gz_72_17 rfl ?_
            refine w_bipush gz_72_18 (by decide) ?_
            refine w_imul gz_72_20 ⟨by omega, by omega⟩ ?_
            refine w_bipush gz_72_21 (by decide) ?_
            refine w_cpG gz_72_23 (ix_8_1 t0) rd_42 (ix_8_1 t0) rd_42 (by omega) (by omega) (by omega) (by omega) (by omega) rfl (by omega) (fun h5 fh5 => ?_)
            have gh5 : my_fr [(42, -1)] h h5 := my_fr.cp gh_72_0 (ix_8_1 t0) fh5 rfl
            have gxh5 : my_fx x0 3 h h5 := my_fx.cp gx_72_0 fh5 (by omega)
            refine w_vret gz_72_26 gm_72 ?_
            show wp l rho (d + 2) 79 98 [(2, x0), (0, p2_0), (0, p72_0), (0, p72_1)] [] h5 Q
            refine w_weak (ls' := [(2, x0), (0, p2_0), (0, p72_0), (9, 0)]) (wk_e (wk_e (wk_e (wk_9 wk_n)))) ?_
            exact J98_0 (p72_0) h5 (gh5) (gxh5) (by omega) (by omega) (by omega) (by omega) (by omega) (by omega) (by omega) (((my_cp_role fh5 t0 (ix_8_1 t0) rfl).trans ca0_0_72_0).trans (by omega)) (((my_cp_role fh5 t0 (ix_8_1 t0) rfl).trans ca0_1_72_0).trans (by omega))
          ·
            refine w_aload_n gz_79_77 rfl ?_
            refine w_iload_n gz_79_78 rfl ?_
            refine w_iconst gz_79_79 (by decide) ?_
            refine w_isub gz_79_80 ⟨by omega, by omega⟩ ?_
            refine w_iload_n gz_79_81 rfl ?_
            refine w_inv (k := 0) (as := [(0, p72_1), (0, (p72_1 - 1))]) (r := []) (x := x0) (ls0 := [(2, x0), (0, (p72_1 - 1)), (0, p72_1)]) gz_79_82 gm_72 rfl t0 rd_8 rfl rfl rfl rfl rfl ?_
            refine w_iload_n gz_72_0 rfl ?_
            refine w_iload_n gz_72_1 rfl ?_
            refine w_iceq (t := 26) gz_72_2 rfl (fun u6 => by exfalso; omega) (fun u6 => ?_)
            refine w_aload_n gz_72_5 rfl ?_
            refine w_getX (v := (x0 + 1)) gz_72_6 t0 rd_8 rfl (by decide) rfl ?_
            refine w_iload_n gz_72_9 rfl ?_
            refine w_bipush gz_72_10 (by decide) ?_
            refine w_imul gz_72_12 ⟨by omega, by omega⟩ ?_
            refine w_aload_n gz_72_13 rfl ?_
            refine w_getX (v := (x0 + 1)) gz_72_14 t0 rd_8 rfl (by decide) rfl ?_
            refine w_iload_n gz_72_17 rfl ?_
            refine w_bipush gz_72_18 (by decide) ?_
            refine w_imul gz_72_20 ⟨by omega, by omega⟩ ?_
            refine w_bipush gz_72_21 (by decide) ?_
            refine w_cpG gz_72_23 (ix_8_1 t0) rd_42 (ix_8_1 t0) rd_42 (by omega) (by omega) (by omega) (by omega) (by omega) rfl (by omega) (fun h9 fh9 => ?_)
            have gh9 : my_fr [(42, -1)] h h9 := my_fr.cp gh_72_0 (ix_8_1 t0) fh9 rfl
            have gxh9 : my_fx x0 3 h h9 := my_fx.cp gx_72_0 fh9 (by omega)
            refine w_vret gz_72_26 gm_72 ?_
            show wp l rho (d + 2) 79 85 [(2, x0), (0, p2_0), (0, p72_0), (0, p72_1)] [] h9 Q
            refine w_iinc (ls' := [(2, x0), (0, p2_0), (0, p72_0), (0, (p72_1 + (-1)))]) gz_79_85 rfl gm_79 rfl rfl rfl ⟨by omega, by omega⟩ ?_
            refine w_goto (t := 72) gz_79_88 rfl ?_
            exact ih_72_0 (p72_0) ((p72_1 + (-1))) h9 (gh9) (gxh9) (by omega) (by omega) (by omega) (by omega) (by omega) (by omega) (by omega) (by omega) (by omega) (by omega) (by omega) (by omega) (((my_cp_role fh9 t0 (ix_8_1 t0) rfl).trans ca0_0_72_0).trans (by omega)) (((my_cp_role fh9 t0 (ix_8_1 t0) rfl).trans ca0_1_72_0).trans (by omega)) (by omega)
      have J58_0 : ∀ (p58_0 : Int) (h58_0 : my_H), my_fr [(42, -1)] h h58_0 → my_fx x0 3 h h58_0 → p2_0 ≤ 10 → 0 ≤ p58_0 → p58_0 ≤ 10 → 2 ≤ ka0_0 → p58_0 ≤ p2_0 → p58_0 ≤ (ka0_0 - 1) → p2_0 ≤ (ka0_0 - 1) → h58_0 x0 0 = ka0_0 → h58_0 x0 1 = ka0_1 → wp l rho (d + 2) 79 58 [(2, x0), (0, p2_0), (0, p58_0), (9, 0)] [] h58_0 Q := by
        intro p58_0 h58_0 gh_58_0 gx_58_0 q0_58_0 q1_58_0 q2_58_0 q3_58_0 q4_58_0 q5_58_0 q6_58_0 ca0_0_58_0 ca0_1_58_0
        refine w_iload_n gz_79_58 rfl ?_
        refine w_iload_n gz_79_59 rfl ?_
        refine w_icge (t := 98) gz_79_60 rfl (fun u10 => ?_) (fun u10 => ?_)
        ·
          exact J98_0 (p58_0) h58_0 (gh_58_0) (gx_58_0) (by omega) (by omega) (by omega) (by omega) (by omega) (by omega) (by omega) (ca0_0_58_0.trans (by omega)) (ca0_1_58_0.trans (by omega))
        ·
          refine w_aload_n gz_79_63 rfl ?_
          refine w_iload_n gz_79_64 rfl ?_
          refine w_bipush gz_79_65 (by decide) ?_
          refine w_inv (k := 0) (as := [(0, 11), (0, p2_0)]) (r := []) (x := x0) (ls0 := [(2, x0), (0, p2_0), (0, 11)]) gz_79_67 gm_72 rfl t0 rd_8 rfl rfl rfl rfl rfl ?_
          refine w_iload_n gz_72_0 rfl ?_
          refine w_iload_n gz_72_1 rfl ?_
          refine w_iceq (t := 26) gz_72_2 rfl (fun u11 => by exfalso; omega) (fun u11 => ?_)
          refine w_aload_n gz_72_5 rfl ?_
          refine w_getX (v := (x0 + 1)) gz_72_6 t0 rd_8 rfl (by decide) rfl ?_
          refine w_iload_n gz_72_9 rfl ?_
          refine w_bipush gz_72_10 (by decide) ?_
          refine w_imul gz_72_12 ⟨by omega, by omega⟩ ?_
          refine w_aload_n gz_72_13 rfl ?_
          refine w_getX (v := (x0 + 1)) gz_72_14 t0 rd_8 rfl (by decide) rfl ?_
          refine w_iload_n gz_72_17 rfl ?_
          refine w_bipush gz_72_18 (by decide) ?_
          refine w_imul gz_72_20 ⟨by omega, by omega⟩ ?_
          refine w_bipush gz_72_21 (by decide) ?_
          refine w_cpG gz_72_23 (ix_8_1 t0) rd_42 (ix_8_1 t0) rd_42 (by omega) (by omega) (by omega) (by omega) (by omega) rfl (by omega) (fun h14 fh14 => ?_)
          have gh14 : my_fr [(42, -1)] h h14 := my_fr.cp gh_58_0 (ix_8_1 t0) fh14 rfl
          have gxh14 : my_fx x0 3 h h14 := my_fx.cp gx_58_0 fh14 (by omega)
          refine w_vret gz_72_26 gm_72 ?_
          show wp l rho (d + 2) 79 70 [(2, x0), (0, p2_0), (0, p58_0), (9, 0)] [] h14 Q
          refine w_iload_n gz_79_70 rfl ?_
          refine w_istore_n (ls' := [(2, x0), (0, p2_0), (0, p58_0), (0, p2_0)]) gz_79_71 gm_79 rfl rfl rfl ?_
          exact J72_0 11 (p58_0) (p2_0) h14 (gh14) (gxh14) (by omega) (by omega) (by omega) (by omega) (by omega) (by omega) (by omega) (by omega) (by omega) (by omega) (by omega) (by omega) (((my_cp_role fh14 t0 (ix_8_1 t0) rfl).trans ca0_0_58_0).trans (by omega)) (((my_cp_role fh14 t0 (ix_8_1 t0) rfl).trans ca0_1_58_0).trans (by omega)) (by omega)
      have J12_0 : ∀ (n : Nat) (p12_0 : Int) (h12_0 : my_H), my_fr [(42, -1)] h h12_0 → my_fx x0 3 h h12_0 → p2_0 ≤ 10 → 0 ≤ p12_0 → p12_0 ≤ 10 → 2 ≤ ka0_0 → p12_0 ≤ p2_0 → p12_0 ≤ (ka0_0 - 1) → p2_0 ≤ (ka0_0 - 1) → h12_0 x0 0 = ka0_0 → h12_0 x0 1 = ka0_1 → p12_0 - (-1) ≤ (n : Int) → wp l rho (d + 2) 79 12 [(2, x0), (0, p2_0), (0, p12_0), (9, 0)] [] h12_0 Q := by
        intro n
        induction n with
        | zero => intro p12_0 h12_0 gh_12_0 gx_12_0 q0_12_0 q1_12_0 q2_12_0 q3_12_0 q4_12_0 q5_12_0 q6_12_0 ca0_0_12_0 ca0_1_12_0 hm_12_0; exfalso; omega
        | succ n ih_12_0 =>
          intro p12_0 h12_0 gh_12_0 gx_12_0 q0_12_0 q1_12_0 q2_12_0 q3_12_0 q4_12_0 q5_12_0 q6_12_0 ca0_0_12_0 ca0_1_12_0 hm_12_0
          have J52_0 : ∀ (p52_0 : Int) (h52_0 : my_H), my_fr [(42, -1)] h h52_0 → my_fx x0 3 h h52_0 → 1 ≤ p12_0 → p52_0 ≤ 0 → p2_0 ≤ (ka0_0 - 1) → p12_0 ≤ p2_0 → p12_0 ≤ (ka0_0 - 1) → h52_0 x0 0 = ka0_0 → h52_0 x0 1 = ka0_1 → wp l rho (d + 2) 79 52 [(2, x0), (0, p2_0), (0, p12_0), (0, p52_0)] [] h52_0 Q := by
            intro p52_0 h52_0 gh_52_0 gx_52_0 q0_52_0 q1_52_0 q2_52_0 q3_52_0 q4_52_0 ca0_0_52_0 ca0_1_52_0
            refine w_iinc (ls' := [(2, x0), (0, p2_0), (0, (p12_0 + (-1))), (0, p52_0)]) gz_79_52 rfl gm_79 rfl rfl rfl ⟨by omega, by omega⟩ ?_
            refine w_goto (t := 12) gz_79_55 rfl ?_
            refine w_weak (ls' := [(2, x0), (0, p2_0), (0, (p12_0 + (-1))), (9, 0)]) (wk_e (wk_e (wk_e (wk_9 wk_n)))) ?_
            exact ih_12_0 ((p12_0 + (-1))) h52_0 (gh_52_0) (gx_52_0) (by omega) (by omega) (by omega) (by omega) (by omega) (by omega) (by omega) (ca0_0_52_0.trans (by omega)) (ca0_1_52_0.trans (by omega)) (by omega)
          refine w_iload_n gz_79_12 rfl ?_
          refine w_ifle (t := 58) gz_79_13 rfl (fun u15 => ?_) (fun u15 => ?_)
          ·
            exact J58_0 (p12_0) h12_0 (gh_12_0) (gx_12_0) (by omega) (by omega) (by omega) (by omega) (by omega) (by omega) (by omega) (ca0_0_12_0.trans (by omega)) (ca0_1_12_0.trans (by omega))
          ·
            refine w_aload_n gz_79_16 rfl ?_
            refine w_iload_n gz_79_17 rfl ?_
            refine w_aload_n gz_79_18 rfl ?_
            refine w_iload_n gz_79_19 rfl ?_
            refine w_iconst gz_79_20 (by decide) ?_
            refine w_isub gz_79_21 ⟨by omega, by omega⟩ ?_
            refine w_inv (k := 2) (as := [(0, (p12_0 - 1)), (2, x0), (0, p2_0)]) (r := []) (x := x0) (ls0 := [(2, x0), (0, p2_0), (2, x0), (0, (p12_0 - 1)), (9, 0), (9, 0)]) gz_79_22 gm_80 rfl t0 rd_8 rfl rfl rfl rfl rfl (c_View_compare (d := (d + 1)) (x0 := x0) (x1 := p2_0) (x2 := x0) (x3 := (p12_0 - 1)) t0 (by omega) (by omega) (by omega) (by omega) t0 (by omega) (by omega) (by omega) (by omega) ?_ (fun v16 w17 w18 => ?_))
            ·
              show wp l rho (d + 2) 79 25 [(2, x0), (0, p2_0), (0, p12_0), (9, 0)] [(0, 0)] h12_0 Q
              refine w_istore_n (ls' := [(2, x0), (0, p2_0), (0, p12_0), (0, 0)]) gz_79_25 gm_79 rfl rfl rfl ?_
              refine w_iload_n gz_79_26 rfl ?_
              refine w_ifgt (t := 58) gz_79_27 rfl (fun u19 => by exfalso; omega) (fun u19 => ?_)
              refine w_iload_n gz_79_30 rfl ?_
              refine w_ifne (t := 52) gz_79_31 rfl (fun u20 => by exfalso; omega) (fun u20 => ?_)
              refine w_aload_n gz_79_34 rfl ?_
              refine w_iload_n gz_79_35 rfl ?_
              refine w_inv (k := 0) (as := [(0, p2_0)]) (r := []) (x := x0) (ls0 := [(2, x0), (0, p2_0)]) gz_79_36 gm_75 rfl t0 rd_8 rfl rfl rfl rfl rfl ?_
              refine w_aload_n gz_75_0 rfl ?_
              refine w_getX (v := (x0 + 1)) gz_75_1 t0 rd_8 rfl (by decide) rfl ?_
              refine w_iload_n gz_75_4 rfl ?_
              refine w_bipush gz_75_5 (by decide) ?_
              refine w_imul gz_75_7 ⟨by omega, by omega⟩ ?_
              refine w_bipush gz_75_8 (by decide) ?_
              refine w_iadd gz_75_10 ⟨by omega, by omega⟩ ?_
              refine w_gldT gz_75_11 (ix_8_1 t0) rd_42 (by omega) (by omega) (by omega) (fun v22 ev22 pv22 qv22 => ?_)
              refine w_iret gz_75_12 gm_75 ?_
              show wp l rho (d + 2) 79 39 [(2, x0), (0, p2_0), (0, p12_0), (0, 0)] [(0, v22)] h12_0 Q
              refine w_aload_n gz_79_39 rfl ?_
              refine w_iload_n gz_79_40 rfl ?_
              refine w_iconst gz_79_41 (by decide) ?_
              refine w_isub gz_79_42 ⟨by omega, by omega⟩ ?_
              refine w_inv (k := 0) (as := [(0, (p12_0 - 1))]) (r := [(0, v22)]) (x := x0) (ls0 := [(2, x0), (0, (p12_0 - 1))]) gz_79_43 gm_75 rfl t0 rd_8 rfl rfl rfl rfl rfl ?_
              refine w_aload_n gz_75_0 rfl ?_
              refine w_getX (v := (x0 + 1)) gz_75_1 t0 rd_8 rfl (by decide) rfl ?_
              refine w_iload_n gz_75_4 rfl ?_
              refine w_bipush gz_75_5 (by decide) ?_
              refine w_imul gz_75_7 ⟨by omega, by omega⟩ ?_
              refine w_bipush gz_75_8 (by decide) ?_
              refine w_iadd gz_75_10 ⟨by omega, by omega⟩ ?_
              refine w_gldT gz_75_11 (ix_8_1 t0) rd_42 (by omega) (by omega) (by omega) (fun v24 ev24 pv24 qv24 => ?_)
              refine w_iret gz_75_12 gm_75 ?_
              show wp l rho (d + 2) 79 46 [(2, x0), (0, p2_0), (0, p12_0), (0, 0)] [(0, v24), (0, v22)] h12_0 Q
              refine w_iclt (t := 52) gz_79_46 rfl (fun u25 => ?_) (fun u25 => ?_)
              ·
                exact J52_0 (0) h12_0 (gh_12_0) (gx_12_0) (by omega) (by omega) (by omega) (by omega) (by omega) (ca0_0_12_0.trans (by omega)) (ca0_1_12_0.trans (by omega))
              ·
                refine w_goto (t := 58) gz_79_49 rfl ?_
                refine w_weak (ls' := [(2, x0), (0, p2_0), (0, p12_0), (9, 0)]) (wk_e (wk_e (wk_e (wk_9 wk_n)))) ?_
                exact J58_0 (p12_0) h12_0 (gh_12_0) (gx_12_0) (by omega) (by omega) (by omega) (by omega) (by omega) (by omega) (by omega) (ca0_0_12_0.trans (by omega)) (ca0_1_12_0.trans (by omega))
            ·
              show wp l rho (d + 2) 79 25 [(2, x0), (0, p2_0), (0, p12_0), (9, 0)] [(0, v16)] h12_0 Q
              refine w_istore_n (ls' := [(2, x0), (0, p2_0), (0, p12_0), (0, v16)]) gz_79_25 gm_79 rfl rfl rfl ?_
              refine w_iload_n gz_79_26 rfl ?_
              refine w_ifgt (t := 58) gz_79_27 rfl (fun u26 => ?_) (fun u26 => ?_)
              ·
                refine w_weak (ls' := [(2, x0), (0, p2_0), (0, p12_0), (9, 0)]) (wk_e (wk_e (wk_e (wk_9 wk_n)))) ?_
                exact J58_0 (p12_0) h12_0 (gh_12_0) (gx_12_0) (by omega) (by omega) (by omega) (by omega) (by omega) (by omega) (by omega) (ca0_0_12_0.trans (by omega)) (ca0_1_12_0.trans (by omega))
              ·
                refine w_iload_n gz_79_30 rfl ?_
                refine w_ifne (t := 52) gz_79_31 rfl (fun u27 => ?_) (fun u27 => ?_)
                ·
                  exact J52_0 (v16) h12_0 (gh_12_0) (gx_12_0) (by omega) (by omega) (by omega) (by omega) (by omega) (ca0_0_12_0.trans (by omega)) (ca0_1_12_0.trans (by omega))
                ·
                  refine w_aload_n gz_79_34 rfl ?_
                  refine w_iload_n gz_79_35 rfl ?_
                  refine w_inv (k := 0) (as := [(0, p2_0)]) (r := []) (x := x0) (ls0 := [(2, x0), (0, p2_0)]) gz_79_36 gm_75 rfl t0 rd_8 rfl rfl rfl rfl rfl ?_
                  refine w_aload_n gz_75_0 rfl ?_
                  refine w_getX (v := (x0 + 1)) gz_75_1 t0 rd_8 rfl (by decide) rfl ?_
                  refine w_iload_n gz_75_4 rfl ?_
                  refine w_bipush gz_75_5 (by decide) ?_
                  refine w_imul gz_75_7 ⟨by omega, by omega⟩ ?_
                  refine w_bipush gz_75_8 (by decide) ?_
                  refine w_iadd gz_75_10 ⟨by omega, by omega⟩ ?_
                  refine w_gldT gz_75_11 (ix_8_1 t0) rd_42 (by omega) (by omega) (by omega) (fun v29 ev29 pv29 qv29 => ?_)
                  refine w_iret gz_75_12 gm_75 ?_
                  show wp l rho (d + 2) 79 39 [(2, x0), (0, p2_0), (0, p12_0), (0, v16)] [(0, v29)] h12_0 Q
                  refine w_aload_n gz_79_39 rfl ?_
                  refine w_iload_n gz_79_40 rfl ?_
                  refine w_iconst gz_79_41 (by decide) ?_
                  refine w_isub gz_79_42 ⟨by omega, by omega⟩ ?_
                  refine w_inv (k := 0) (as := [(0, (p12_0 - 1))]) (r := [(0, v29)]) (x := x0) (ls0 := [(2, x0), (0, (p12_0 - 1))]) gz_79_43 gm_75 rfl t0 rd_8 rfl rfl rfl rfl rfl ?_
                  refine w_aload_n gz_75_0 rfl ?_
                  refine w_getX (v := (x0 + 1)) gz_75_1 t0 rd_8 rfl (by decide) rfl ?_
                  refine w_iload_n gz_75_4 rfl ?_
                  refine w_bipush gz_75_5 (by decide) ?_
                  refine w_imul gz_75_7 ⟨by omega, by omega⟩ ?_
                  refine w_bipush gz_75_8 (by decide) ?_
                  refine w_iadd gz_75_10 ⟨by omega, by omega⟩ ?_
                  refine w_gldT gz_75_11 (ix_8_1 t0) rd_42 (by omega) (by omega) (by omega) (fun v31 ev31 pv31 qv31 => ?_)
                  refine w_iret gz_75_12 gm_75 ?_
                  show wp l rho (d + 2) 79 46 [(2, x0), (0, p2_0), (0, p12_0), (0, v16)] [(0, v31), (0, v29)] h12_0 Q
                  refine w_iclt (t := 52) gz_79_46 rfl (fun u32 => ?_) (fun u32 => ?_)
                  ·
                    exact J52_0 (v16) h12_0 (gh_12_0) (gx_12_0) (by omega) (by omega) (by omega) (by omega) (by omega) (ca0_0_12_0.trans (by omega)) (ca0_1_12_0.trans (by omega))
                  ·
                    refine w_goto (t := 58) gz_79_49 rfl ?_
                    refine w_weak (ls' := [(2, x0), (0, p2_0), (0, p12_0), (9, 0)]) (wk_e (wk_e (wk_e (wk_9 wk_n)))) ?_
                    exact J58_0 (p12_0) h12_0 (gh_12_0) (gx_12_0) (by omega) (by omega) (by omega) (by omega) (by omega) (by omega) (by omega) (ca0_0_12_0.trans (by omega)) (ca0_1_12_0.trans (by omega))
      refine w_iload_n gz_79_2 rfl ?_
      refine w_aload_n gz_79_3 rfl ?_
      refine v_getI (j := 0) gz_79_4 rfl t0 rd_8 rfl (fun v33 ev33 pv33 qv33 => ?_)
      have zv33 := ev33.trans ca0_0_2_0
      refine w_icge (t := 104) gz_79_7 rfl (fun u34 => ?_) (fun u34 => ?_)
      ·
        have ce35 : h2_0 x0 0 = v33 := ev33.symm
        have ce36 : h2_0 x0 1 = ka0_1 := ca0_1_2_0
        exact w_vret gz_79_104 gm_79 (k0 h2_0 (gh_2_0) (gx_2_0) (by first | assumption | omega | (subst_vars; omega)) (by first | assumption | omega | (subst_vars; omega)))
      ·
        refine w_iload_n gz_79_10 rfl ?_
        refine w_istore_n (ls' := [(2, x0), (0, p2_0), (0, p2_0), (9, 0)]) gz_79_11 gm_79 rfl rfl rfl ?_
        exact J12_0 11 (p2_0) h2_0 (gh_2_0) (gx_2_0) (by omega) (by omega) (by omega) (by omega) (by omega) (by omega) (by omega) (ev33.symm.trans (by omega)) (ca0_1_2_0.trans (by omega)) (by omega)
  refine w_iconst gz_79_0 (by decide) ?_
  refine w_istore_n (ls' := [(2, x0), (0, 1), (9, 0), (9, 0)]) gz_79_1 gm_79 rfl rfl rfl ?_
  exact J2_0 11 (1) h (my_fr.rf) (my_fx.rf) (by omega) (by omega) (by omega) (eka0_0.symm.trans (by omega)) (eka0_1.symm.trans (by omega)) (by omega)
theorem c_Desk_tellingRows {l : Launch} {rho : Nat → Int32} {d : Nat} {h : my_H} {Q : my_H → my_V → Prop} {x1 : Int} (t1 : my_is 4 x1) (hor : h 94 15 ≠ 2 → 0 ≤ h 94 16 ∧ h 94 16 ≤ 9) (k0 : ∀ (y : Int), Q h (1, y)) : wp l rho (d + 2) 96 0 [(2, 94), (2, x1), (9, 0), (9, 0), (9, 0), (9, 0)] [] h Q := by
  have J16_0 : ∀ (n : Nat) (z16_l2 p16_0 : Int), 0 ≤ p16_0 → p16_0 ≤ 20 → h x1 7 = 0 → 21 - p16_0 ≤ (n : Int) → wp l rho (d + 2) 96 16 [(2, 94), (2, x1), (1, z16_l2), (9, 0), (0, p16_0), (9, 0)] [] h Q := by
    intro n
    induction n with
    | zero => intro z16_l2 p16_0 q0_16_0 q1_16_0 ca1_7_16_0 hm_16_0; exfalso; omega
    | succ n ih_16_0 =>
      intro z16_l2 p16_0 q0_16_0 q1_16_0 ca1_7_16_0 hm_16_0
      have J115_0 : ∀ (z115_l2 p115_0 : Int), p16_0 ≤ 19 → 0 ≤ p115_0 → p115_0 ≤ 2 → h x1 2 = p115_0 → h x1 7 = 0 → wp l rho (d + 2) 96 115 [(2, 94), (2, x1), (1, z115_l2), (9, 0), (0, p16_0), (9, 0)] [] h Q := by
        intro z115_l2 p115_0 q0_115_0 q1_115_0 q2_115_0 ca1_2_115_0 ca1_7_115_0
        refine w_iinc (ls' := [(2, 94), (2, x1), (1, z115_l2), (9, 0), (0, (p16_0 + 1)), (9, 0)]) gz_96_115 rfl gm_96 rfl rfl rfl ⟨by omega, by omega⟩ ?_
        refine w_goto (t := 16) gz_96_118 rfl ?_
        exact ih_16_0 (z115_l2) ((p16_0 + 1)) (by omega) (by omega) (ca1_7_115_0.trans (by omega)) (by omega)
      have J102_0 : ∀ (z102_l2 p102_0 p102_1 p102_2 : Int), p16_0 ≤ 19 → (-1) ≤ p102_0 → p102_0 ≤ 10 → 0 ≤ p102_1 → p102_1 ≤ 2 → 0 ≤ p102_2 → p102_2 ≤ 1 → h x1 2 = p102_1 → h x1 7 = 0 → h 94 14 = p102_2 → wp l rho (d + 2) 96 102 [(2, 94), (2, x1), (1, z102_l2), (9, 0), (0, p16_0), (0, p102_0)] [] h Q := by
        intro z102_l2 p102_0 p102_1 p102_2 q0_102_0 q1_102_0 q2_102_0 q3_102_0 q4_102_0 q5_102_0 q6_102_0 ca1_2_102_0 ca1_7_102_0 c94_14_102_0
        refine w_lload_n gz_96_102 rfl ?_
        refine w_aload_n gz_96_103 rfl ?_
        refine w_getX (v := 98) gz_96_104 is_94 rd_2 rfl (by decide) rfl ?_
        refine w_getX (v := 101) gz_96_107 is_98 rd_8 rfl (by decide) rfl ?_
        refine w_iload gz_96_110 rfl ?_
        refine w_lald gz_96_112 is_101 rd_44 (by omega) (by omega) (fun v3 ev3 pv3 => ?_)
        refine w_jany2 gz_96_113 (fun _ => rfl) rfl (fun v4 pv4 => ?_)
        refine w_lstore_n (ls' := [(2, 94), (2, x1), (1, v4), (9, 0), (0, p16_0), (0, p102_0)]) gz_96_114 gm_96 rfl rfl rfl ?_
        refine w_weak (ls' := [(2, 94), (2, x1), (1, v4), (9, 0), (0, p16_0), (9, 0)]) (wk_e (wk_e (wk_e (wk_9 (wk_e (wk_9 wk_n)))))) ?_
        exact J115_0 (v4) (p102_1) (by omega) (by omega) (by omega) (ca1_2_102_0.trans (by omega)) (ca1_7_102_0.trans (by omega))
      refine w_iload gz_96_16 rfl ?_
      refine w_bipush gz_96_18 (by decide) ?_
      refine w_icge (t := 121) gz_96_20 rfl (fun u5 => ?_) (fun u5 => ?_)
      ·
        refine w_lload_n gz_96_121 rfl ?_
        exact w_lret gz_96_122 gm_96 (k0 (z16_l2))
      ·
        refine w_aload_n gz_96_23 rfl ?_
        refine w_getX (v := 95) gz_96_24 is_94 rd_2 rfl (by decide) rfl ?_
        refine w_aload_n gz_96_27 rfl ?_
        refine v_getI (j := 2) gz_96_28 rfl t1 rd_4 rfl (fun v7 ev7 pv7 qv7 => ?_)
        refine w_iload gz_96_31 rfl ?_
        refine w_inv (k := 0) (as := [(0, p16_0), (0, v7)]) (r := []) (x := 95) (ls0 := [(2, 95), (0, v7), (0, p16_0)]) gz_96_33 gm_15 rfl is_95 rd_6 rfl rfl rfl rfl rfl ?_
        refine w_iload_n gz_15_0 rfl ?_
        refine w_iflt (t := 31) gz_15_1 rfl (fun u8 => by exfalso; omega) (fun u8 => ?_)
        refine w_iload_n gz_15_4 rfl ?_
        refine w_bipush gz_15_5 (by decide) ?_
        refine w_icge (t := 31) gz_15_7 rfl (fun u9 => by exfalso; omega) (fun u9 => ?_)
        refine w_aload_n gz_15_10 rfl ?_
        refine w_getX (v := 96) gz_15_11 is_95 rd_6 rfl (by decide) rfl ?_
        refine w_iload_n gz_15_14 rfl ?_
        refine w_bipush gz_15_15 (by decide) ?_
        refine w_imul gz_15_17 ⟨by omega, by omega⟩ ?_
        refine w_iload_n gz_15_18 rfl ?_
        refine w_iadd gz_15_19 ⟨by omega, by omega⟩ ?_
        refine w_iconst gz_15_20 (by decide) ?_
        refine w_imul gz_15_21 ⟨by omega, by omega⟩ ?_
        refine w_iald gz_15_22 is_96 rd_30 (by omega) (by omega) (fun v11 ev11 pv11 qv11 => ?_)
        refine w_iconst gz_15_23 (by decide) ?_
        refine w_iceq (t := 31) gz_15_24 rfl (fun u12 => ?_) (fun u12 => ?_)
        ·
          refine w_iconst gz_15_31 (by decide) ?_
          refine w_bret gz_15_32 gm_15 (by omega) (by omega) ?_
          show wp l rho (d + 2) 96 36 [(2, 94), (2, x1), (1, z16_l2), (9, 0), (0, p16_0), (9, 0)] [(0, 0)] h Q
          refine w_ifeq (t := 115) gz_96_36 rfl (fun u13 => ?_) (fun u13 => by exfalso; omega)
          exact J115_0 (z16_l2) (v7) (by omega) (by omega) (by omega) (ev7.symm.trans (by omega)) (ca1_7_16_0.trans (by omega))
        ·
          refine w_iconst gz_15_27 (by decide) ?_
          refine w_goto (t := 32) gz_15_28 rfl ?_
          refine w_bret gz_15_32 gm_15 (by omega) (by omega) ?_
          show wp l rho (d + 2) 96 36 [(2, 94), (2, x1), (1, z16_l2), (9, 0), (0, p16_0), (9, 0)] [(0, 1)] h Q
          refine w_ifeq (t := 115) gz_96_36 rfl (fun u14 => by exfalso; omega) (fun u14 => ?_)
          refine w_aload_n gz_96_39 rfl ?_
          refine w_getX (v := 98) gz_96_40 is_94 rd_2 rfl (by decide) rfl ?_
          refine w_iload gz_96_43 rfl ?_
          refine w_inv (k := 1) (as := [(0, p16_0)]) (r := []) (x := 98) (ls0 := [(2, 98), (0, p16_0), (9, 0)]) gz_96_45 gm_97 rfl is_98 rd_8 rfl rfl rfl rfl rfl (c_View_rowOf (d := d) (x0 := 98) (x1 := p16_0) is_98 (by omega) (by omega) ?_ (fun v16 w17 w18 w19 w20 => ?_))
          ·
            show wp l rho (d + 2) 96 48 [(2, 94), (2, x1), (1, z16_l2), (9, 0), (0, p16_0), (9, 0)] [(0, (-1))] h Q
            refine w_istore (ls' := [(2, 94), (2, x1), (1, z16_l2), (9, 0), (0, p16_0), (0, (-1))]) gz_96_48 gm_96 rfl rfl rfl ?_
            refine w_aload_n gz_96_50 rfl ?_
            refine v_getI (j := 14) gz_96_51 rfl is_94 rd_2 rfl (fun v21 ev21 pv21 qv21 => ?_)
            refine w_ifne (t := 102) gz_96_54 rfl (fun u22 => ?_) (fun u22 => ?_)
            ·
              exact J102_0 (z16_l2) ((-1)) (v7) (v21) (by omega) (by omega) (by omega) (by omega) (by omega) (by omega) (by omega) (ev7.symm.trans (by omega)) (ca1_7_16_0.trans (by omega)) (ev21.symm.trans (by omega))
            ·
              refine w_iload gz_96_57 rfl ?_
              refine w_iconst gz_96_59 (by decide) ?_
              refine w_icne (t := 74) gz_96_60 rfl (fun u23 => by exfalso; omega) (fun u23 => ?_)
              refine w_aload_n gz_96_63 rfl ?_
              refine v_getI (j := 15) gz_96_64 rfl is_94 rd_2 rfl (fun v24 ev24 pv24 qv24 => ?_)
              refine w_iconst gz_96_67 (by decide) ?_
              refine w_icne (t := 115) gz_96_68 rfl (fun u25 => ?_) (fun u25 => ?_)
              ·
                refine w_weak (ls' := [(2, 94), (2, x1), (1, z16_l2), (9, 0), (0, p16_0), (9, 0)]) (wk_e (wk_e (wk_e (wk_9 (wk_e (wk_9 wk_n)))))) ?_
                exact J115_0 (z16_l2) (v7) (by omega) (by omega) (by omega) (ev7.symm.trans (by omega)) (ca1_7_16_0.trans (by omega))
              ·
                refine w_goto (t := 102) gz_96_71 rfl ?_
                exact J102_0 (z16_l2) ((-1)) (v7) (v21) (by omega) (by omega) (by omega) (by omega) (by omega) (by omega) (by omega) (ev7.symm.trans (by omega)) (ca1_7_16_0.trans (by omega)) (ev21.symm.trans (by omega))
          ·
            show wp l rho (d + 2) 96 48 [(2, 94), (2, x1), (1, z16_l2), (9, 0), (0, p16_0), (9, 0)] [(0, v16)] h Q
            refine w_istore (ls' := [(2, 94), (2, x1), (1, z16_l2), (9, 0), (0, p16_0), (0, v16)]) gz_96_48 gm_96 rfl rfl rfl ?_
            refine w_aload_n gz_96_50 rfl ?_
            refine v_getI (j := 14) gz_96_51 rfl is_94 rd_2 rfl (fun v26 ev26 pv26 qv26 => ?_)
            refine w_ifne (t := 102) gz_96_54 rfl (fun u27 => ?_) (fun u27 => ?_)
            ·
              exact J102_0 (z16_l2) (v16) (v7) (v26) (by omega) (by omega) (by omega) (by omega) (by omega) (by omega) (by omega) (ev7.symm.trans (by omega)) (ca1_7_16_0.trans (by omega)) (ev26.symm.trans (by omega))
            ·
              refine w_iload gz_96_57 rfl ?_
              refine w_iconst gz_96_59 (by decide) ?_
              refine w_icne (t := 74) gz_96_60 rfl (fun u28 => ?_) (fun u28 => by exfalso; omega)
              refine w_aload_n gz_96_74 rfl ?_
              refine v_getI (j := 15) gz_96_75 rfl is_94 rd_2 rfl (fun v29 ev29 pv29 qv29 => ?_)
              refine w_iconst gz_96_78 (by decide) ?_
              refine w_iceq (t := 115) gz_96_79 rfl (fun u30 => ?_) (fun u30 => ?_)
              ·
                refine w_weak (ls' := [(2, 94), (2, x1), (1, z16_l2), (9, 0), (0, p16_0), (9, 0)]) (wk_e (wk_e (wk_e (wk_9 (wk_e (wk_9 wk_n)))))) ?_
                exact J115_0 (z16_l2) (v7) (by omega) (by omega) (by omega) (ev7.symm.trans (by omega)) (ca1_7_16_0.trans (by omega))
              ·
                refine w_aload_n gz_96_82 rfl ?_
                refine w_getX (v := 98) gz_96_83 is_94 rd_2 rfl (by decide) rfl ?_
                refine w_iload gz_96_86 rfl ?_
                refine w_aload_n gz_96_88 rfl ?_
                refine w_getX (v := 98) gz_96_89 is_94 rd_2 rfl (by decide) rfl ?_
                refine w_aload_n gz_96_92 rfl ?_
                refine v_getI (j := 16) gz_96_93 rfl is_94 rd_2 rfl (fun v33 ev33 pv33 qv33 => ?_)
                have hi34 : 0 ≤ v33 := by omega
                have hi35 : v33 ≤ 9 := by omega
                refine w_inv (k := 2) (as := [(0, v33), (2, 98), (0, v16)]) (r := []) (x := 98) (ls0 := [(2, 98), (0, v16), (2, 98), (0, v33), (9, 0), (9, 0)]) gz_96_96 gm_80 rfl is_98 rd_8 rfl rfl rfl rfl rfl (c_View_compare (d := (d + 1)) (x0 := 98) (x1 := v16) (x2 := 98) (x3 := v33) is_98 (by omega) (by omega) (by omega) (by omega) is_98 (by omega) (by omega) (by omega) (by omega) ?_ (fun v36 w37 w38 => ?_))
                ·
                  show wp l rho (d + 2) 96 99 [(2, 94), (2, x1), (1, z16_l2), (9, 0), (0, p16_0), (0, v16)] [(0, 0)] h Q
                  refine w_ifne (t := 115) gz_96_99 rfl (fun u39 => by exfalso; omega) (fun u39 => ?_)
                  exact J102_0 (z16_l2) (v16) (v7) (v26) (by omega) (by omega) (by omega) (by omega) (by omega) (by omega) (by omega) (ev7.symm.trans (by omega)) (ca1_7_16_0.trans (by omega)) (ev26.symm.trans (by omega))
                ·
                  show wp l rho (d + 2) 96 99 [(2, 94), (2, x1), (1, z16_l2), (9, 0), (0, p16_0), (0, v16)] [(0, v36)] h Q
                  refine w_ifne (t := 115) gz_96_99 rfl (fun u40 => ?_) (fun u40 => ?_)
                  ·
                    refine w_weak (ls' := [(2, 94), (2, x1), (1, z16_l2), (9, 0), (0, p16_0), (9, 0)]) (wk_e (wk_e (wk_e (wk_9 (wk_e (wk_9 wk_n)))))) ?_
                    exact J115_0 (z16_l2) (v7) (by omega) (by omega) (by omega) (ev7.symm.trans (by omega)) (ca1_7_16_0.trans (by omega))
                  ·
                    exact J102_0 (z16_l2) (v16) (v7) (v26) (by omega) (by omega) (by omega) (by omega) (by omega) (by omega) (by omega) (ev7.symm.trans (by omega)) (ca1_7_16_0.trans (by omega)) (ev26.symm.trans (by omega))
  refine w_aload_n gz_96_0 rfl ?_
  refine v_getI (j := 7) gz_96_1 rfl t1 rd_4 rfl (fun v41 ev41 pv41 qv41 => ?_)
  refine w_ifeq (t := 11) gz_96_4 rfl (fun u42 => ?_) (fun u42 => ?_)
  ·
    refine w_lconst gz_96_11 ?_
    refine w_lstore_n (ls' := [(2, 94), (2, x1), (1, (((0 : Fin 2).val : Nat) : Int)), (9, 0), (9, 0), (9, 0)]) gz_96_12 gm_96 rfl rfl rfl ?_
    refine w_iconst gz_96_13 (by decide) ?_
    refine w_istore (ls' := [(2, 94), (2, x1), (1, (((0 : Fin 2).val : Nat) : Int)), (9, 0), (0, 0), (9, 0)]) gz_96_14 gm_96 rfl rfl rfl ?_
    exact J16_0 21 ((((0 : Fin 2).val : Nat) : Int)) (0) (by omega) (by omega) (ev41.symm.trans (by omega)) (by omega)
  ·
    refine w_ldc2A gz_96_7 (fun v43 pv43 => ?_)
    exact w_lret gz_96_10 gm_96 (k0 (v43))
theorem c_Cutter_countArranged {l : Launch} {rho : Nat → Int32} {d : Nat} {h : my_H} {Q : my_H → my_V → Prop} {x1 x2 x3 : Int} (t1 : my_is 6 x1) (a2 : 0 ≤ x2) (b2 : x2 ≤ 2) (k0 : ∀ (h' : my_H), my_fr [(8, 0), (8, 1), (42, -1), (44, -1), (45, -1)] h h' → Q h' (0, 0)) (k1 : ∀ (h' : my_H) (y : Int), my_fr [(8, 0), (8, 1), (42, -1), (44, -1), (45, -1)] h h' → 0 ≤ y → Q h' (0, y)) : wp l rho (d + 3) 122 0 [(2, 114), (2, x1), (0, x2), (0, x3), (2, 98), (9, 0), (9, 0), (9, 0)] [] h Q := by
  refine v_know (x := 98) (j := 1) (b := 1) rfl is_98 rd_8 rfl (fun k98_1 ek98_1 pk98_1 qk98_1 => ?_)
  have J41_0 : ∀ (n : Nat) (p41_0 p41_1 p41_2 p41_3 : Int) (h41_0 : my_H), my_fr [(8, 0), (8, 1), (42, -1), (44, -1), (45, -1)] h h41_0 → 0 ≤ p41_0 → p41_0 ≤ 4 → 0 ≤ p41_1 → 0 ≤ p41_2 → k98_1 ≤ 4 → 0 ≤ p41_3 → p41_3 ≤ 11 → p41_1 ≤ p41_2 → k98_1 ≤ p41_0 → h41_0 98 0 = p41_3 → h41_0 98 1 = k98_1 → p41_2 ≤ 2147483647 → 2147483648 - p41_2 ≤ (n : Int) → wp l rho (d + 3) 122 41 [(2, 114), (2, x1), (0, x2), (0, x3), (2, 98), (0, p41_0), (0, p41_1), (0, p41_2)] [] h41_0 Q := by
    intro n
    induction n with
    | zero => intro p41_0 p41_1 p41_2 p41_3 h41_0 gh_41_0 q0_41_0 q1_41_0 q2_41_0 q3_41_0 q4_41_0 q5_41_0 q6_41_0 q7_41_0 q8_41_0 c98_0_41_0 c98_1_41_0 cm_41_0 hm_41_0; exfalso; omega
    | succ n ih_41_0 =>
      intro p41_0 p41_1 p41_2 p41_3 h41_0 gh_41_0 q0_41_0 q1_41_0 q2_41_0 q3_41_0 q4_41_0 q5_41_0 q6_41_0 q7_41_0 q8_41_0 c98_0_41_0 c98_1_41_0 cm_41_0 hm_41_0
      have J122_0 : ∀ (p122_0 : Int) (h122_0 : my_H), my_fr [(8, 0), (8, 1), (42, -1), (44, -1), (45, -1)] h h122_0 → 0 ≤ p122_0 → p41_2 ≤ 2147483646 → p41_1 ≤ 2147483646 → p122_0 ≤ (p41_2 + 1) → p122_0 ≤ (p41_1 + 1) → k98_1 ≤ p41_0 → p41_1 ≤ p122_0 → p41_1 ≤ p41_2 → h122_0 98 0 = p41_3 → h122_0 98 1 = k98_1 → wp l rho (d + 3) 122 122 [(2, 114), (2, x1), (0, x2), (0, x3), (2, 98), (0, p41_0), (0, p122_0), (0, p41_2)] [] h122_0 Q := by
        intro p122_0 h122_0 gh_122_0 q0_122_0 q1_122_0 q2_122_0 q3_122_0 q4_122_0 q5_122_0 q6_122_0 q7_122_0 c98_0_122_0 c98_1_122_0
        refine w_iincB (ls' := [(2, 114), (2, x1), (0, x2), (0, x3), (2, 98), (0, p41_0), (0, p122_0), (0, (p41_2 + 1))]) gz_122_122 rfl gm_122 rfl rfl rfl (fun _ _ => ⟨by omega, by omega⟩) ?_
        refine w_goto (t := 41) gz_122_125 rfl ?_
        exact ih_41_0 (p41_0) (p122_0) ((p41_2 + 1)) (p41_3) h122_0 (gh_122_0) (by omega) (by omega) (by omega) (by omega) (by omega) (by omega) (by omega) (by omega) (by omega) (c98_0_122_0.trans (by omega)) (c98_1_122_0.trans (by omega)) (by first | assumption | omega | (subst_vars; omega)) (by omega)
      refine w_iload gz_122_41 rfl ?_
      refine w_iconst gz_122_43 (by decide) ?_
      refine w_iconst gz_122_44 (by decide) ?_
      refine w_aload gz_122_45 rfl ?_
      refine v_getI (j := 1) gz_122_47 rfl is_98 rd_8 rfl (fun v1 ev1 pv1 qv1 => ?_)
      have zv1 := ev1.trans c98_1_41_0
      refine w_imul gz_122_50 ⟨by omega, by omega⟩ ?_
      refine w_ianyL gz_122_51 (fun v2 pv2 qv2 => ?_)
      refine w_icge (t := 128) gz_122_52 rfl (fun u3 => ?_) (fun u3 => ?_)
      ·
        refine w_iload gz_122_128 rfl ?_
        exact w_iret gz_122_130 gm_122 (k1 h41_0 (p41_1) (gh_41_0) (by omega))
      ·
        refine w_aload_n gz_122_55 rfl ?_
        refine w_iload gz_122_56 rfl ?_
        refine w_aload gz_122_58 rfl ?_
        refine v_getI (j := 1) gz_122_60 rfl is_98 rd_8 rfl (fun v4 ev4 pv4 qv4 => ?_)
        have zv4 := ev4.trans ev1.symm
        refine w_iload gz_122_63 rfl ?_
        refine w_inv (k := 3) (as := [(0, p41_0), (0, v4), (0, p41_2)]) (r := []) (x := 114) (ls0 := [(2, 114), (0, p41_2), (0, v4), (0, p41_0), (9, 0), (9, 0), (9, 0)]) gz_122_65 gm_124 rfl is_114 rd_1 rfl rfl rfl rfl rfl (c_Cutter_picksColumns (d := (d + 2)) (x1 := p41_2) (x2 := v4) (x3 := p41_0) (by omega) (by omega) (by omega) (by omega) (by omega) (fun h5 frh5 w6 => ?_) (fun h7 frh7 => ?_))
        ·
          have gh5 : my_fr [(8, 0), (8, 1), (42, -1), (44, -1), (45, -1)] h h5 := my_fr.tr gh_41_0 (frh5.mo rfl)
          show wp l rho (d + 3) 122 68 [(2, 114), (2, x1), (0, x2), (0, x3), (2, 98), (0, p41_0), (0, p41_1), (0, p41_2)] [(0, 0)] h5 Q
          refine w_ifeq (t := 122) gz_122_68 rfl (fun u8 => ?_) (fun u8 => by exfalso; omega)
          exact J122_0 (p41_1) h5 (gh5) (by omega) (by omega) (by omega) (by omega) (by omega) (by omega) (by omega) (by omega) (((my_fr.at frh5 is_98 rfl).trans c98_0_41_0).trans (by omega)) (((my_fr.at frh5 is_98 rfl).trans ev4.symm).trans (by omega))
        ·
          have gh7 : my_fr [(8, 0), (8, 1), (42, -1), (44, -1), (45, -1)] h h7 := my_fr.tr gh_41_0 (frh7.mo rfl)
          show wp l rho (d + 3) 122 68 [(2, 114), (2, x1), (0, x2), (0, x3), (2, 98), (0, p41_0), (0, p41_1), (0, p41_2)] [(0, 1)] h7 Q
          refine w_ifeq (t := 122) gz_122_68 rfl (fun u9 => by exfalso; omega) (fun u9 => ?_)
          refine w_aload_n gz_122_71 rfl ?_
          refine w_getX (v := 115) gz_122_72 is_114 rd_1 rfl (by decide) rfl ?_
          refine w_aload_n gz_122_75 rfl ?_
          refine w_iload_n gz_122_76 rfl ?_
          refine w_iload gz_122_77 rfl ?_
          refine w_iload_n gz_122_79 rfl ?_
          refine w_inv (k := 2) (as := [(0, x3), (0, p41_0), (0, x2), (2, x1)]) (r := []) (x := 115) (ls0 := [(2, 115), (2, x1), (0, x2), (0, p41_0), (0, x3), (9, 0), (9, 0)]) gz_122_80 gm_68 rfl is_115 rd_8 rfl rfl rfl rfl rfl (c_View_load (d := (d + 1)) (x0 := 115) (x1 := x1) (x2 := x2) (x3 := p41_0) (x4 := x3) is_115 t1 (by omega) (by omega) (by omega) (by omega) (by omega) (by omega) (by omega) (by omega) (fun h11 frh11 fxh11 w12 w13 w14 w15 xp16 xp17 => ?_))
          have gh11 : my_fr [(8, 0), (8, 1), (42, -1), (44, -1), (45, -1)] h h11 := my_fr.tr gh7 (frh11.mo rfl)
          show wp l rho (d + 3) 122 83 [(2, 114), (2, x1), (0, x2), (0, x3), (2, 98), (0, p41_0), (0, p41_1), (0, p41_2)] [] h11 Q
          refine w_aload_n gz_122_83 rfl ?_
          refine w_getX (v := 115) gz_122_84 is_114 rd_1 rfl (by decide) rfl ?_
          refine w_aload_n gz_122_87 rfl ?_
          refine w_getX (v := 119) gz_122_88 is_114 rd_1 rfl (by decide) rfl ?_
          refine w_iconst gz_122_91 (by decide) ?_
          refine w_aload gz_122_92 rfl ?_
          refine v_getI (j := 1) gz_122_94 rfl is_98 rd_8 rfl (fun v20 ev20 pv20 qv20 => ?_)
          have zv20 := ev20.trans ((my_fx.at fxh11 (by omega)).trans ((my_fr.at frh7 is_98 rfl).trans ev4.symm))
          refine w_inv (k := 3) (as := [(0, v20), (0, 0), (2, 119)]) (r := []) (x := 115) (ls0 := [(2, 115), (2, 119), (0, 0), (0, v20), (9, 0), (9, 0), (9, 0)]) gz_122_97 gm_71 rfl is_115 rd_8 rfl rfl rfl rfl rfl (c_View_few_v8_45 (d := d) (x0 := 115) (x3 := v20) is_115 (by omega) (by omega) (by omega) (by omega) (fun h21 frh21 fxh21 w22 w23 xp24 xp25 => ?_))
          have gh21 : my_fr [(8, 0), (8, 1), (42, -1), (44, -1), (45, -1)] h h21 := my_fr.tr gh11 (frh21.mo rfl)
          show wp l rho (d + 3) 122 100 [(2, 114), (2, x1), (0, x2), (0, x3), (2, 98), (0, p41_0), (0, p41_1), (0, p41_2)] [] h21 Q
          refine w_aload_n gz_122_100 rfl ?_
          refine w_getX (v := 115) gz_122_101 is_114 rd_1 rfl (by decide) rfl ?_
          refine w_inv (k := 3) (as := []) (r := []) (x := 115) (ls0 := [(2, 115), (9, 0), (9, 0), (9, 0)]) gz_122_104 gm_79 rfl is_115 rd_8 rfl rfl rfl rfl rfl (c_View_sort (d := d) (x0 := 115) is_115 (fun h27 frh27 fxh27 xp28 xp29 => ?_))
          have gh27 : my_fr [(8, 0), (8, 1), (42, -1), (44, -1), (45, -1)] h h27 := my_fr.tr gh21 (frh27.mo rfl)
          show wp l rho (d + 3) 122 107 [(2, 114), (2, x1), (0, x2), (0, x3), (2, 98), (0, p41_0), (0, p41_1), (0, p41_2)] [] h27 Q
          refine w_aload_n gz_122_107 rfl ?_
          refine w_getX (v := 115) gz_122_108 is_114 rd_1 rfl (by decide) rfl ?_
          refine w_aload gz_122_111 rfl ?_
          refine w_inv (k := 1) (as := [(2, 98)]) (r := []) (x := 115) (ls0 := [(2, 115), (2, 98), (9, 0)]) gz_122_113 gm_93 rfl is_115 rd_8 rfl rfl rfl rfl rfl (c_View_same (d := (d + 1)) (x0 := 115) (x1 := 98) is_115 is_98 ?_ ?_)
          ·
            show wp l rho (d + 3) 122 116 [(2, 114), (2, x1), (0, x2), (0, x3), (2, 98), (0, p41_0), (0, p41_1), (0, p41_2)] [(0, 0)] h27 Q
            refine w_ifeq (t := 122) gz_122_116 rfl (fun u31 => ?_) (fun u31 => by exfalso; omega)
            exact J122_0 (p41_1) h27 (gh27) (by omega) (by omega) (by omega) (by omega) (by omega) (by omega) (by omega) (by omega) (((my_fr.at frh27 is_98 rfl).trans ((my_fr.at frh21 is_98 rfl).trans ((my_fx.at fxh11 (by omega)).trans ((my_fr.at frh7 is_98 rfl).trans c98_0_41_0)))).trans (by omega)) (((my_fr.at frh27 is_98 rfl).trans ((my_fx.at fxh21 (by omega)).trans ev20.symm)).trans (by omega))
          ·
            show wp l rho (d + 3) 122 116 [(2, 114), (2, x1), (0, x2), (0, x3), (2, 98), (0, p41_0), (0, p41_1), (0, p41_2)] [(0, 1)] h27 Q
            refine w_ifeq (t := 122) gz_122_116 rfl (fun u32 => by exfalso; omega) (fun u32 => ?_)
            refine w_iincB (ls' := [(2, 114), (2, x1), (0, x2), (0, x3), (2, 98), (0, p41_0), (0, (p41_1 + 1)), (0, p41_2)]) gz_122_119 rfl gm_122 rfl rfl rfl (fun _ _ => ⟨by omega, by omega⟩) ?_
            exact J122_0 ((p41_1 + 1)) h27 (gh27) (by omega) (by omega) (by omega) (by omega) (by omega) (by omega) (by omega) (by omega) (((my_fr.at frh27 is_98 rfl).trans ((my_fr.at frh21 is_98 rfl).trans ((my_fx.at fxh11 (by omega)).trans ((my_fr.at frh7 is_98 rfl).trans c98_0_41_0)))).trans (by omega)) (((my_fr.at frh27 is_98 rfl).trans ((my_fx.at fxh21 (by omega)).trans ev20.symm)).trans (by omega))
  refine w_aload_n gz_122_0 rfl ?_
  refine w_getX (v := 1) gz_122_1 is_114 rd_1 rfl (by decide) rfl ?_
  refine w_getX (v := 2) gz_122_4 is_1 rd_3 rfl (by decide) rfl ?_
  refine w_iload_n gz_122_7 rfl ?_
  refine w_iald gz_122_8 is_2 rd_25 (by omega) (by omega) (fun v35 ev35 pv35 qv35 => ?_)
  refine w_istore (ls' := [(2, 114), (2, x1), (0, x2), (0, x3), (2, 98), (0, v35), (9, 0), (9, 0)]) gz_122_9 gm_122 rfl rfl rfl ?_
  refine w_aload gz_122_11 rfl ?_
  refine v_getI (j := 1) gz_122_13 rfl is_98 rd_8 rfl (fun v36 ev36 pv36 qv36 => ?_)
  have zv36 := ev36.trans ek98_1.symm
  refine w_iload gz_122_16 rfl ?_
  refine w_icgt (t := 33) gz_122_18 rfl (fun u37 => ?_) (fun u37 => ?_)
  ·
    refine w_iconst gz_122_33 (by decide) ?_
    exact w_iret gz_122_34 gm_122 (k0 h (my_fr.rf))
  ·
    refine w_iload_n gz_122_21 rfl ?_
    refine w_inS (k := 0) (as := [(0, x3)]) (r := []) (ls0 := [(0, x3)]) gz_122_22 gm_123 rfl rfl rfl rfl rfl rfl ?_
    refine w_iload_n gz_123_0 rfl ?_
    refine w_iload_n gz_123_1 rfl ?_
    refine w_iconst gz_123_2 (by decide) ?_
    refine w_ianyU gz_123_3 (fun v38 pv38 qv38 => ?_)
    refine w_ldcw (v := 1431655765) dcw_123_4 cw_265 (by decide) ?_
    refine w_iandM gz_123_7 (by decide) (fun v39 pv39 qv39 => ?_)
    refine w_ianyS gz_123_8 (fun v40 pv40 qv40 => ?_)
    refine w_istore_n (ls' := [(0, v40)]) gz_123_9 gm_123 rfl rfl rfl ?_
    refine w_iload_n gz_123_10 rfl ?_
    refine w_ldcw (v := 858993459) dcw_123_11 cw_266 (by decide) ?_
    refine w_iandM gz_123_14 (by decide) (fun v41 pv41 qv41 => ?_)
    refine w_iload_n gz_123_15 rfl ?_
    refine w_iconst gz_123_16 (by decide) ?_
    refine w_ianyU gz_123_17 (fun v42 pv42 qv42 => ?_)
    refine w_ldcw (v := 858993459) dcw_123_18 cw_266 (by decide) ?_
    refine w_iandM gz_123_21 (by decide) (fun v43 pv43 qv43 => ?_)
    refine w_iadd gz_123_22 ⟨by omega, by omega⟩ ?_
    refine w_istore_n (ls' := [(0, (v41 + v43))]) gz_123_23 gm_123 rfl rfl rfl ?_
    refine w_iload_n gz_123_24 rfl ?_
    refine w_iload_n gz_123_25 rfl ?_
    refine w_iconst gz_123_26 (by decide) ?_
    refine w_ianyU gz_123_27 (fun v44 pv44 qv44 => ?_)
    refine w_ianyA gz_123_28 (fun v45 pv45 qv45 => ?_)
    refine w_ldcw (v := 252645135) dcw_123_29 cw_267 (by decide) ?_
    refine w_iandM gz_123_32 (by decide) (fun v46 pv46 qv46 => ?_)
    refine w_istore_n (ls' := [(0, v46)]) gz_123_33 gm_123 rfl rfl rfl ?_
    refine w_iload_n gz_123_34 rfl ?_
    refine w_iload_n gz_123_35 rfl ?_
    refine w_bipush gz_123_36 (by decide) ?_
    refine w_ianyU gz_123_38 (fun v47 pv47 qv47 => ?_)
    refine w_ianyA gz_123_39 (fun v48 pv48 qv48 => ?_)
    refine w_istore_n (ls' := [(0, v48)]) gz_123_40 gm_123 rfl rfl rfl ?_
    refine w_iload_n gz_123_41 rfl ?_
    refine w_iload_n gz_123_42 rfl ?_
    refine w_bipush gz_123_43 (by decide) ?_
    refine w_ianyU gz_123_45 (fun v49 pv49 qv49 => ?_)
    refine w_ianyA gz_123_46 (fun v50 pv50 qv50 => ?_)
    refine w_istore_n (ls' := [(0, v50)]) gz_123_47 gm_123 rfl rfl rfl ?_
    refine w_iload_n gz_123_48 rfl ?_
    refine w_bipush gz_123_49 (by decide) ?_
    refine w_iandM gz_123_51 (by decide) (fun v51 pv51 qv51 => ?_)
    refine w_iret gz_123_52 gm_123 ?_
    show wp l rho (d + 3) 122 25 [(2, 114), (2, x1), (0, x2), (0, x3), (2, 98), (0, v35), (9, 0), (9, 0)] [(0, v51)] h Q
    refine w_aload gz_122_25 rfl ?_
    refine v_getI (j := 0) gz_122_27 rfl is_98 rd_8 rfl (fun v52 ev52 pv52 qv52 => ?_)
    refine w_iceq (t := 35) gz_122_30 rfl (fun u53 => ?_) (fun u53 => ?_)
    ·
      refine w_iconst gz_122_35 (by decide) ?_
      refine w_istore (ls' := [(2, 114), (2, x1), (0, x2), (0, x3), (2, 98), (0, v35), (0, 0), (9, 0)]) gz_122_36 gm_122 rfl rfl rfl ?_
      refine w_iconst gz_122_38 (by decide) ?_
      refine w_istore (ls' := [(2, 114), (2, x1), (0, x2), (0, x3), (2, 98), (0, v35), (0, 0), (0, 0)]) gz_122_39 gm_122 rfl rfl rfl ?_
      exact J41_0 (2147483648) (v35) (0) (0) (v52) h (my_fr.rf) (by omega) (by omega) (by omega) (by omega) (by omega) (by omega) (by omega) (by omega) (by omega) (ev52.symm.trans (by omega)) (ev36.symm.trans (by omega)) (by first | assumption | omega | (subst_vars; omega)) (by omega)
    ·
      refine w_iconst gz_122_33 (by decide) ?_
      exact w_iret gz_122_34 gm_122 (k0 h (my_fr.rf))
theorem c_Reader_readOver_f0 {l : Launch} {rho : Nat → Int32} {d : Nat} {h : my_H} {Q : my_H → my_V → Prop} {x1 : Int} {wv : Int} (a1 : 0 ≤ x1) (b1 : x1 ≤ 5) (cf : h 82 9 = 0) (hwv : wv ≤ 5) (hwv0 : 0 ≤ wv) (n_Ln : Ln h) (n_Un : Un h wv) (hwx : wv = x1) (k0 : ∀ (h' : my_H), my_fr [(4, 1), (4, 2), (4, 3), (4, 4), (4, 5), (4, 6), (4, 7), (4, 8), (4, 9), (5, 5), (5, 6), (5, 7), (5, 8), (5, 9), (37, -1), (38, -1)] h h' → 1 ≤ h' 82 9 → h' 82 9 ≤ 16004 → Ln h' → Un h' wv → Q h' (9, 0)) (k1 : ∀ (h' : my_H), my_fr [(4, 1), (4, 2), (4, 3), (4, 4), (4, 5), (4, 6), (4, 7), (4, 8), (4, 9), (5, 5), (5, 6), (5, 7), (5, 8), (5, 9), (37, -1), (38, -1)] h h' → h' 82 9 = 0 → Sp h' wv → Ln h' → Un h' wv → Q h' (9, 0)) : wp l rho (d + 4) 39 0 [(2, 82), (0, x1), (9, 0)] [] h Q := by
  refine w_aload_n gz_39_0 rfl ?_
  refine w_ldcS gz_39_1 (by decide) ?_
  refine w_inv (k := 0) (as := [(3, ((1 : Nat) : Int))]) (r := []) (x := 82) (ls0 := [(2, 82), (3, ((1 : Nat) : Int))]) gz_39_3 gm_40 rfl is_82 rd_5 rfl rfl rfl rfl rfl (c_Reader_takeWord_f0 (d := (d + 1)) (x1 := ((1 : Nat) : Int)) (by decide) (cf.trans (by omega)) (fun h1 frh1 w2 w3 => ?_) (fun h4 frh4 w5 => ?_))
  ·
    have gh1 : my_fr [(4, 1), (4, 2), (4, 3), (4, 4), (4, 5), (4, 6), (4, 7), (4, 8), (4, 9), (5, 5), (5, 6), (5, 7), (5, 8), (5, 9), (37, -1), (38, -1)] h h1 := my_fr.tr my_fr.rf (frh1.mo rfl)
    have Ln_h1 : Ln h1 := Ln_ag (my_ag.fr frh1 rfl) n_Ln
    have Un_h1 : Un h1 wv := Un_ag (my_ag.fr frh1 rfl) n_Ln n_Un
    show wp l rho (d + 4) 39 6 [(2, 82), (0, x1), (9, 0)] [(0, 0)] h1 Q
    refine w_ifne (t := 10) gz_39_6 rfl (fun u6 => by exfalso; omega) (fun u6 => ?_)
    have c7 := (rfl : h1 82 9 = h1 82 9)
    exact w_vret gz_39_9 gm_39 (k0 h1 (gh1) (by omega) (by omega) Ln_h1 Un_h1)
  ·
    have gh4 : my_fr [(4, 1), (4, 2), (4, 3), (4, 4), (4, 5), (4, 6), (4, 7), (4, 8), (4, 9), (5, 5), (5, 6), (5, 7), (5, 8), (5, 9), (37, -1), (38, -1)] h h4 := my_fr.tr my_fr.rf (frh4.mo rfl)
    have Ln_h4 : Ln h4 := Ln_ag (my_ag.fr frh4 rfl) n_Ln
    have Un_h4 : Un h4 wv := Un_ag (my_ag.fr frh4 rfl) n_Ln n_Un
    show wp l rho (d + 4) 39 6 [(2, 82), (0, x1), (9, 0)] [(0, 1)] h4 Q
    refine w_ifne (t := 10) gz_39_6 rfl (fun u8 => ?_) (fun u8 => by exfalso; omega)
    refine w_aload_n gz_39_10 rfl ?_
    refine w_ldcS gz_39_11 (by decide) ?_
    refine w_inv (k := 1) (as := [(3, ((2 : Nat) : Int))]) (r := []) (x := 82) (ls0 := [(2, 82), (3, ((2 : Nat) : Int)), (9, 0)]) gz_39_13 gm_41 rfl is_82 rd_5 rfl rfl rfl rfl rfl (c_Reader_isWord_f0 (d := (d + 3)) (x1 := ((2 : Nat) : Int)) (by decide) (w5.trans (by omega)) (fun w9 => ?_) (fun w10 w11 => ?_))
    ·
      show wp l rho (d + 4) 39 16 [(2, 82), (0, x1), (9, 0)] [(0, 0)] h4 Q
      refine w_ifeq (t := 57) gz_39_16 rfl (fun u12 => ?_) (fun u12 => by exfalso; omega)
      refine w_aload_n gz_39_57 rfl ?_
      refine w_ldcS gz_39_58 (by decide) ?_
      refine w_inv (k := 1) (as := [(3, ((3 : Nat) : Int))]) (r := []) (x := 82) (ls0 := [(2, 82), (3, ((3 : Nat) : Int)), (9, 0)]) gz_39_60 gm_41 rfl is_82 rd_5 rfl rfl rfl rfl rfl (c_Reader_isWord_f0 (d := (d + 3)) (x1 := ((3 : Nat) : Int)) (by decide) (w5.trans (by omega)) (fun w13 => ?_) (fun w14 w15 => ?_))
      ·
        show wp l rho (d + 4) 39 63 [(2, 82), (0, x1), (9, 0)] [(0, 0)] h4 Q
        refine w_ifeq (t := 127) gz_39_63 rfl (fun u16 => ?_) (fun u16 => by exfalso; omega)
        refine w_aload_n gz_39_127 rfl ?_
        refine w_iconst gz_39_128 (by decide) ?_
        refine w_inv (k := 0) (as := [(0, 1)]) (r := []) (x := 82) (ls0 := [(2, 82), (0, 1)]) gz_39_129 gm_42 rfl is_82 rd_5 rfl rfl rfl rfl rfl ?_
        refine w_aload_n gz_42_0 rfl ?_
        refine v_getI (j := 9) gz_42_1 rfl is_82 rd_5 rfl (fun v17 ev17 pv17 qv17 => ?_)
        have zv17 := ev17.trans w5
        refine w_ifne (t := 20) gz_42_4 rfl (fun u18 => by exfalso; omega) (fun u18 => ?_)
        refine w_aload_n gz_42_7 rfl ?_
        refine w_iload_n gz_42_8 rfl ?_
        refine w_bipush gz_42_9 (by decide) ?_
        refine w_aload_n gz_42_11 rfl ?_
        refine v_getI (j := 7) gz_42_12 rfl is_82 rd_5 rfl (fun v19 ev19 pv19 qv19 => ?_)
        refine w_imul gz_42_15 ⟨by omega, by omega⟩ ?_
        refine w_iadd gz_42_16 ⟨by omega, by omega⟩ ?_
        refine v_putI (j := 9) gz_42_17 rfl is_82 rd_5 rfl (by omega) (by omega) rfl (fun h20 fh20 => ?_)
        have gh20 : my_fr [(4, 1), (4, 2), (4, 3), (4, 4), (4, 5), (4, 6), (4, 7), (4, 8), (4, 9), (5, 5), (5, 6), (5, 7), (5, 8), (5, 9), (37, -1), (38, -1)] h h20 := my_fr.up gh4 is_82 fh20 rfl
        have Ln_h20 : Ln h20 := Ln_ag (my_ag.up fh20 is_82 rfl) Ln_h4
        have Un_h20 : Un h20 wv := Un_ag (my_ag.up fh20 is_82 rfl) Ln_h4 Un_h4
        refine w_vret gz_42_20 gm_42 ?_
        show wp l rho (d + 4) 39 132 [(2, 82), (0, x1), (9, 0)] [] h20 Q
        have c21 := (my_up_self fh20)
        exact w_vret gz_39_132 gm_39 (k0 h20 (gh20) (by omega) (by omega) Ln_h20 Un_h20)
      ·
        show wp l rho (d + 4) 39 63 [(2, 82), (0, x1), (9, 0)] [(0, 1)] h4 Q
        refine w_ifeq (t := 127) gz_39_63 rfl (fun u22 => by exfalso; omega) (fun u22 => ?_)
        refine w_aload_n gz_39_66 rfl ?_
        refine w_inv (k := 2) (as := []) (r := []) (x := 82) (ls0 := [(2, 82), (9, 0), (9, 0)]) gz_39_67 gm_37 rfl is_82 rd_5 rfl rfl rfl rfl rfl (c_Reader_nextToken_f0 (d := (d + 2))  (w5.trans (by omega)) (fun h23 frh23 w24 w25 w26 => ?_))
        have gh23 : my_fr [(4, 1), (4, 2), (4, 3), (4, 4), (4, 5), (4, 6), (4, 7), (4, 8), (4, 9), (5, 5), (5, 6), (5, 7), (5, 8), (5, 9), (37, -1), (38, -1)] h h23 := my_fr.tr gh4 (frh23.mo rfl)
        have Ln_h23 : Ln h23 := Ln_ag (my_ag.fr frh23 rfl) Ln_h4
        have Un_h23 : Un h23 wv := Un_ag (my_ag.fr frh23 rfl) Ln_h4 Un_h4
        show wp l rho (d + 4) 39 70 [(2, 82), (0, x1), (9, 0)] [] h23 Q
        refine w_aload_n gz_39_70 rfl ?_
        refine w_iload_n gz_39_71 rfl ?_
        refine w_inv (k := 0) (as := [(0, x1)]) (r := []) (x := 82) (ls0 := [(2, 82), (0, x1)]) gz_39_72 gm_44 rfl is_82 rd_5 rfl rfl rfl rfl rfl ?_
        refine w_aload_n gz_44_0 rfl ?_
        refine v_getI (j := 6) gz_44_1 rfl is_82 rd_5 rfl (fun v27 ev27 pv27 qv27 => ?_)
        have zv27 := ev27.trans (rfl : h23 82 6 = h23 82 6)
        refine w_iconst gz_44_4 (by decide) ?_
        refine w_iceq (t := 15) gz_44_5 rfl (fun u28 => ?_) (fun u28 => ?_)
        ·
          refine w_aload_n gz_44_15 rfl ?_
          refine v_getI (j := 8) gz_44_16 rfl is_82 rd_5 rfl (fun v29 ev29 pv29 qv29 => ?_)
          refine w_iload_n gz_44_19 rfl ?_
          refine w_iclt (t := 30) gz_44_20 rfl (fun u30 => ?_) (fun u30 => ?_)
          ·
            refine w_aload_n gz_44_30 rfl ?_
            refine v_getI (j := 9) gz_44_31 rfl is_82 rd_5 rfl (fun v31 ev31 pv31 qv31 => ?_)
            have zv31 := ev31.trans ((my_fr.at frh23 is_82 rfl).trans w5)
            refine w_ifne (t := 44) gz_44_34 rfl (fun u32 => by exfalso; omega) (fun u32 => ?_)
            refine w_aload_n gz_44_37 rfl ?_
            refine v_getI (j := 8) gz_44_38 rfl is_82 rd_5 rfl (fun v33 ev33 pv33 qv33 => ?_)
            have zv33 := ev33.trans ev29.symm
            refine w_goto (t := 45) gz_44_41 rfl ?_
            refine w_iret gz_44_45 gm_44 ?_
            show wp l rho (d + 4) 39 75 [(2, 82), (0, x1), (9, 0)] [(0, v33)] h23 Q
            refine w_istore_n (ls' := [(2, 82), (0, x1), (0, v33)]) gz_39_75 gm_39 rfl rfl rfl ?_
            refine w_iload_n gz_39_76 rfl ?_
            refine w_iconst gz_39_77 (by decide) ?_
            refine w_iceq (t := 101) gz_39_78 rfl (fun u34 => by exfalso; omega) (fun u34 => ?_)
            refine w_aload_n gz_39_81 rfl ?_
            refine w_getX (v := 27) gz_39_82 is_82 rd_5 rfl (by decide) rfl ?_
            refine w_iload_n gz_39_85 rfl ?_
            refine w_aald gz_39_86 is_27 rd_22 rfl (by omega) (by omega) (fun v36 ev36 tv36 => ?_)
            refine v_getI (j := 0) gz_39_87 rfl tv36 rd_4 rfl (fun v37 ev37 pv37 qv37 => ?_)
            refine w_ifne (t := 101) gz_39_90 rfl (fun u38 => ?_) (fun u38 => ?_)
            ·
              refine w_iload_n gz_39_101 rfl ?_
              refine w_iconst gz_39_102 (by decide) ?_
              refine w_iceq (t := 124) gz_39_103 rfl (fun u39 => by exfalso; omega) (fun u39 => ?_)
              refine w_aload_n gz_39_106 rfl ?_
              refine v_getR (j := 2) gz_39_107 rfl is_82 rd_5 rfl (fun v40 ev40 tv40 => ?_)
              refine w_iload_n gz_39_110 rfl ?_
              refine w_aload_n gz_39_111 rfl ?_
              refine w_getX (v := 27) gz_39_112 is_82 rd_5 rfl (by decide) rfl ?_
              refine w_iload_n gz_39_115 rfl ?_
              refine w_aald gz_39_116 is_27 rd_22 rfl (by omega) (by omega) (fun v42 ev42 tv42 => ?_)
              have zv42 : v36 = v42 := (ev42.trans ev36.symm).symm
              subst zv42
              have apw := ln_apart ((Ln_h23).2.2.1 v33 (by omega) (by omega)) (Ln_h23).2.2.2.1 ((Ln_h23).2.1 v33 (by omega) (by omega))
              have q27 : h23 27 v33 = v36 := by first | assumption | omega
              rw [q27] at apw
              have q82 : h23 82 2 = v40 := by first | assumption | omega
              rw [q82] at apw
              refine w_inv (k := 0) (as := [(2, v36), (0, v33)]) (r := []) (x := v40) (ls0 := [(2, v40), (0, v33), (2, v36)]) gz_39_117 gm_48 rfl tv40 rd_4 rfl rfl rfl rfl rfl (c_Lens_startOnWindow (d := (d + 2)) (x0 := v40) (x1 := v33) (x2 := v36) tv40 (by omega) (by omega) tv36 (by first | assumption | omega | (subst_vars; omega)) (fun h43 frh43 fxh43 w44 w45 w46 xp47 xp48 xp49 xp50 => ?_))
              have gh43 : my_fr [(4, 1), (4, 2), (4, 3), (4, 4), (4, 5), (4, 6), (4, 7), (4, 8), (4, 9), (5, 5), (5, 6), (5, 7), (5, 8), (5, 9), (37, -1), (38, -1)] h h43 := my_fr.tr gh23 (frh43.mo rfl)
              have Ln_h43 : Ln h43 := Ln_fx fxh43 (by first | assumption | omega) Ln_h23
              have Un_h43 : Un h43 wv := Un_fx fxh43 (by first | assumption | omega) Ln_h23 Un_h23
              show wp l rho (d + 4) 39 120 [(2, 82), (0, x1), (0, v33)] [] h43 Q
              have Sp_h43t51 : Sp h43 wv := Sp_win fxh43 (by first | assumption | omega) Ln_h23 (by omega) (by omega) hwv (by subst_vars; omega) xp47 (by rw [xp48]; subst_vars; rfl) (by rw [xp49]; subst_vars; rfl) xp50
              refine w_aload_n gz_39_120 rfl ?_
              refine w_inv (k := 0) (as := []) (r := []) (x := 82) (ls0 := [(2, 82)]) gz_39_121 gm_46 rfl is_82 rd_5 rfl rfl rfl rfl rfl (c_Reader_endPart_f0 (d := d)  (((my_fr.at frh43 is_82 rfl).trans ev31.symm).trans (by omega)) (fun h52 frh52 w53 w54 => ?_) (fun h55 frh55 w56 => ?_))
              ·
                have gh52 : my_fr [(4, 1), (4, 2), (4, 3), (4, 4), (4, 5), (4, 6), (4, 7), (4, 8), (4, 9), (5, 5), (5, 6), (5, 7), (5, 8), (5, 9), (37, -1), (38, -1)] h h52 := my_fr.tr gh43 (frh52.mo rfl)
                have Ln_h52 : Ln h52 := Ln_ag (my_ag.fr frh52 rfl) Ln_h43
                have Un_h52 : Un h52 wv := Un_ag (my_ag.fr frh52 rfl) Ln_h43 Un_h43
                have Sp_h52 : Sp h52 wv := Sp_ag (my_ag.fr frh52 rfl) hwv Ln_h43 Sp_h43t51
                show wp l rho (d + 4) 39 124 [(2, 82), (0, x1), (0, v33)] [] h52 Q
                refine w_goto (t := 132) gz_39_124 rfl ?_
                have c57 := (rfl : h52 82 9 = h52 82 9)
                exact w_vret gz_39_132 gm_39 (k0 h52 (gh52) (by omega) (by omega) Ln_h52 Un_h52)
              ·
                have gh55 : my_fr [(4, 1), (4, 2), (4, 3), (4, 4), (4, 5), (4, 6), (4, 7), (4, 8), (4, 9), (5, 5), (5, 6), (5, 7), (5, 8), (5, 9), (37, -1), (38, -1)] h h55 := my_fr.tr gh43 (frh55.mo rfl)
                have Ln_h55 : Ln h55 := Ln_ag (my_ag.fr frh55 rfl) Ln_h43
                have Un_h55 : Un h55 wv := Un_ag (my_ag.fr frh55 rfl) Ln_h43 Un_h43
                have Sp_h55 : Sp h55 wv := Sp_ag (my_ag.fr frh55 rfl) hwv Ln_h43 Sp_h43t51
                show wp l rho (d + 4) 39 124 [(2, 82), (0, x1), (0, v33)] [] h55 Q
                refine w_goto (t := 132) gz_39_124 rfl ?_
                have c58 := w56
                exact w_vret gz_39_132 gm_39 (k1 h55 (gh55) (by omega) (by first | exact Sp_h55 | assumption | omega | grind) Ln_h55 Un_h55)
            ·
              refine w_aload_n gz_39_93 rfl ?_
              refine w_iconst gz_39_94 (by decide) ?_
              refine w_inv (k := 0) (as := [(0, 2)]) (r := []) (x := 82) (ls0 := [(2, 82), (0, 2)]) gz_39_95 gm_42 rfl is_82 rd_5 rfl rfl rfl rfl rfl ?_
              refine w_aload_n gz_42_0 rfl ?_
              refine v_getI (j := 9) gz_42_1 rfl is_82 rd_5 rfl (fun v59 ev59 pv59 qv59 => ?_)
              have zv59 := ev59.trans ev31.symm
              refine w_ifne (t := 20) gz_42_4 rfl (fun u60 => by exfalso; omega) (fun u60 => ?_)
              refine w_aload_n gz_42_7 rfl ?_
              refine w_iload_n gz_42_8 rfl ?_
              refine w_bipush gz_42_9 (by decide) ?_
              refine w_aload_n gz_42_11 rfl ?_
              refine v_getI (j := 7) gz_42_12 rfl is_82 rd_5 rfl (fun v61 ev61 pv61 qv61 => ?_)
              refine w_imul gz_42_15 ⟨by omega, by omega⟩ ?_
              refine w_iadd gz_42_16 ⟨by omega, by omega⟩ ?_
              refine v_putI (j := 9) gz_42_17 rfl is_82 rd_5 rfl (by omega) (by omega) rfl (fun h62 fh62 => ?_)
              have gh62 : my_fr [(4, 1), (4, 2), (4, 3), (4, 4), (4, 5), (4, 6), (4, 7), (4, 8), (4, 9), (5, 5), (5, 6), (5, 7), (5, 8), (5, 9), (37, -1), (38, -1)] h h62 := my_fr.up gh23 is_82 fh62 rfl
              have Ln_h62 : Ln h62 := Ln_ag (my_ag.up fh62 is_82 rfl) Ln_h23
              have Un_h62 : Un h62 wv := Un_ag (my_ag.up fh62 is_82 rfl) Ln_h23 Un_h23
              refine w_vret gz_42_20 gm_42 ?_
              show wp l rho (d + 4) 39 98 [(2, 82), (0, x1), (0, v33)] [] h62 Q
              refine w_goto (t := 124) gz_39_98 rfl ?_
              refine w_goto (t := 132) gz_39_124 rfl ?_
              have c63 := (my_up_self fh62)
              exact w_vret gz_39_132 gm_39 (k0 h62 (gh62) (by omega) (by omega) Ln_h62 Un_h62)
          ·
            refine w_aload_n gz_44_23 rfl ?_
            refine w_iconst gz_44_24 (by decide) ?_
            refine w_inv (k := 0) (as := [(0, 4)]) (r := []) (x := 82) (ls0 := [(2, 82), (0, 4)]) gz_44_25 gm_42 rfl is_82 rd_5 rfl rfl rfl rfl rfl ?_
            refine w_aload_n gz_42_0 rfl ?_
            refine v_getI (j := 9) gz_42_1 rfl is_82 rd_5 rfl (fun v64 ev64 pv64 qv64 => ?_)
            have zv64 := ev64.trans ((my_fr.at frh23 is_82 rfl).trans w5)
            refine w_ifne (t := 20) gz_42_4 rfl (fun u65 => by exfalso; omega) (fun u65 => ?_)
            refine w_aload_n gz_42_7 rfl ?_
            refine w_iload_n gz_42_8 rfl ?_
            refine w_bipush gz_42_9 (by decide) ?_
            refine w_aload_n gz_42_11 rfl ?_
            refine v_getI (j := 7) gz_42_12 rfl is_82 rd_5 rfl (fun v66 ev66 pv66 qv66 => ?_)
            refine w_imul gz_42_15 ⟨by omega, by omega⟩ ?_
            refine w_iadd gz_42_16 ⟨by omega, by omega⟩ ?_
            refine v_putI (j := 9) gz_42_17 rfl is_82 rd_5 rfl (by omega) (by omega) rfl (fun h67 fh67 => ?_)
            have gh67 : my_fr [(4, 1), (4, 2), (4, 3), (4, 4), (4, 5), (4, 6), (4, 7), (4, 8), (4, 9), (5, 5), (5, 6), (5, 7), (5, 8), (5, 9), (37, -1), (38, -1)] h h67 := my_fr.up gh23 is_82 fh67 rfl
            have Ln_h67 : Ln h67 := Ln_ag (my_ag.up fh67 is_82 rfl) Ln_h23
            have Un_h67 : Un h67 wv := Un_ag (my_ag.up fh67 is_82 rfl) Ln_h23 Un_h23
            refine w_vret gz_42_20 gm_42 ?_
            show wp l rho (d + 3) 44 28 [(2, 82), (0, x1)] [] h67 _
            refine w_iconst gz_44_28 (by decide) ?_
            refine w_iret gz_44_29 gm_44 ?_
            show wp l rho (d + 4) 39 75 [(2, 82), (0, x1), (9, 0)] [(0, (-1))] h67 Q
            refine w_istore_n (ls' := [(2, 82), (0, x1), (0, (-1))]) gz_39_75 gm_39 rfl rfl rfl ?_
            refine w_iload_n gz_39_76 rfl ?_
            refine w_iconst gz_39_77 (by decide) ?_
            refine w_iceq (t := 101) gz_39_78 rfl (fun u68 => ?_) (fun u68 => by exfalso; omega)
            refine w_iload_n gz_39_101 rfl ?_
            refine w_iconst gz_39_102 (by decide) ?_
            refine w_iceq (t := 124) gz_39_103 rfl (fun u69 => ?_) (fun u69 => by exfalso; omega)
            refine w_goto (t := 132) gz_39_124 rfl ?_
            have c70 := (my_up_self fh67)
            exact w_vret gz_39_132 gm_39 (k0 h67 (gh67) (by omega) (by omega) Ln_h67 Un_h67)
        ·
          refine w_aload_n gz_44_8 rfl ?_
          refine w_iconst gz_44_9 (by decide) ?_
          refine w_inv (k := 0) (as := [(0, 1)]) (r := []) (x := 82) (ls0 := [(2, 82), (0, 1)]) gz_44_10 gm_42 rfl is_82 rd_5 rfl rfl rfl rfl rfl ?_
          refine w_aload_n gz_42_0 rfl ?_
          refine v_getI (j := 9) gz_42_1 rfl is_82 rd_5 rfl (fun v71 ev71 pv71 qv71 => ?_)
          have zv71 := ev71.trans ((my_fr.at frh23 is_82 rfl).trans w5)
          refine w_ifne (t := 20) gz_42_4 rfl (fun u72 => by exfalso; omega) (fun u72 => ?_)
          refine w_aload_n gz_42_7 rfl ?_
          refine w_iload_n gz_42_8 rfl ?_
          refine w_bipush gz_42_9 (by decide) ?_
          refine w_aload_n gz_42_11 rfl ?_
          refine v_getI (j := 7) gz_42_12 rfl is_82 rd_5 rfl (fun v73 ev73 pv73 qv73 => ?_)
          refine w_imul gz_42_15 ⟨by omega, by omega⟩ ?_
          refine w_iadd gz_42_16 ⟨by omega, by omega⟩ ?_
          refine v_putI (j := 9) gz_42_17 rfl is_82 rd_5 rfl (by omega) (by omega) rfl (fun h74 fh74 => ?_)
          have gh74 : my_fr [(4, 1), (4, 2), (4, 3), (4, 4), (4, 5), (4, 6), (4, 7), (4, 8), (4, 9), (5, 5), (5, 6), (5, 7), (5, 8), (5, 9), (37, -1), (38, -1)] h h74 := my_fr.up gh23 is_82 fh74 rfl
          have Ln_h74 : Ln h74 := Ln_ag (my_ag.up fh74 is_82 rfl) Ln_h23
          have Un_h74 : Un h74 wv := Un_ag (my_ag.up fh74 is_82 rfl) Ln_h23 Un_h23
          refine w_vret gz_42_20 gm_42 ?_
          show wp l rho (d + 3) 44 13 [(2, 82), (0, x1)] [] h74 _
          refine w_iconst gz_44_13 (by decide) ?_
          refine w_iret gz_44_14 gm_44 ?_
          show wp l rho (d + 4) 39 75 [(2, 82), (0, x1), (9, 0)] [(0, (-1))] h74 Q
          refine w_istore_n (ls' := [(2, 82), (0, x1), (0, (-1))]) gz_39_75 gm_39 rfl rfl rfl ?_
          refine w_iload_n gz_39_76 rfl ?_
          refine w_iconst gz_39_77 (by decide) ?_
          refine w_iceq (t := 101) gz_39_78 rfl (fun u75 => ?_) (fun u75 => by exfalso; omega)
          refine w_iload_n gz_39_101 rfl ?_
          refine w_iconst gz_39_102 (by decide) ?_
          refine w_iceq (t := 124) gz_39_103 rfl (fun u76 => ?_) (fun u76 => by exfalso; omega)
          refine w_goto (t := 132) gz_39_124 rfl ?_
          have c77 := (my_up_self fh74)
          exact w_vret gz_39_132 gm_39 (k0 h74 (gh74) (by omega) (by omega) Ln_h74 Un_h74)
    ·
      show wp l rho (d + 4) 39 16 [(2, 82), (0, x1), (9, 0)] [(0, 1)] h4 Q
      refine w_ifeq (t := 57) gz_39_16 rfl (fun u78 => by exfalso; omega) (fun u78 => ?_)
      refine w_aload_n gz_39_19 rfl ?_
      refine w_inv (k := 2) (as := []) (r := []) (x := 82) (ls0 := [(2, 82), (9, 0), (9, 0)]) gz_39_20 gm_37 rfl is_82 rd_5 rfl rfl rfl rfl rfl (c_Reader_nextToken_f0 (d := (d + 2))  (w5.trans (by omega)) (fun h79 frh79 w80 w81 w82 => ?_))
      have gh79 : my_fr [(4, 1), (4, 2), (4, 3), (4, 4), (4, 5), (4, 6), (4, 7), (4, 8), (4, 9), (5, 5), (5, 6), (5, 7), (5, 8), (5, 9), (37, -1), (38, -1)] h h79 := my_fr.tr gh4 (frh79.mo rfl)
      have Ln_h79 : Ln h79 := Ln_ag (my_ag.fr frh79 rfl) Ln_h4
      have Un_h79 : Un h79 wv := Un_ag (my_ag.fr frh79 rfl) Ln_h4 Un_h4
      show wp l rho (d + 4) 39 23 [(2, 82), (0, x1), (9, 0)] [] h79 Q
      refine w_aload_n gz_39_23 rfl ?_
      refine w_inv (k := 1) (as := []) (r := []) (x := 82) (ls0 := [(2, 82), (9, 0)]) gz_39_24 gm_43 rfl is_82 rd_5 rfl rfl rfl rfl rfl (c_Reader_wallNumber_f0 (d := (d + 1))  (((my_fr.at frh79 is_82 rfl).trans w5).trans (by omega)) (fun h83 frh83 w84 w85 xp86 => ?_) (fun h87 v88 frh87 w89 w90 w91 w92 w93 w94 xp95 => ?_))
      ·
        have gh83 : my_fr [(4, 1), (4, 2), (4, 3), (4, 4), (4, 5), (4, 6), (4, 7), (4, 8), (4, 9), (5, 5), (5, 6), (5, 7), (5, 8), (5, 9), (37, -1), (38, -1)] h h83 := my_fr.tr gh79 (frh83.mo rfl)
        have Ln_h83 : Ln h83 := Ln_ag (my_ag.fr frh83 rfl) Ln_h79
        have Un_h83 : Un h83 wv := Un_ag (my_ag.fr frh83 rfl) Ln_h79 Un_h79
        show wp l rho (d + 4) 39 27 [(2, 82), (0, x1), (9, 0)] [(0, (-1))] h83 Q
        refine w_istore_n (ls' := [(2, 82), (0, x1), (0, (-1))]) gz_39_27 gm_39 rfl rfl rfl ?_
        refine w_iload_n gz_39_28 rfl ?_
        refine w_iconst gz_39_29 (by decide) ?_
        refine w_iceq (t := 54) gz_39_30 rfl (fun u96 => ?_) (fun u96 => by exfalso; omega)
        refine w_goto (t := 132) gz_39_54 rfl ?_
        have c97 := (rfl : h83 82 9 = h83 82 9)
        exact w_vret gz_39_132 gm_39 (k0 h83 (gh83) (by omega) (by omega) Ln_h83 Un_h83)
      ·
        have gh87 : my_fr [(4, 1), (4, 2), (4, 3), (4, 4), (4, 5), (4, 6), (4, 7), (4, 8), (4, 9), (5, 5), (5, 6), (5, 7), (5, 8), (5, 9), (37, -1), (38, -1)] h h87 := my_fr.tr gh79 (frh87.mo rfl)
        have Ln_h87 : Ln h87 := Ln_ag (my_ag.fr frh87 rfl) Ln_h79
        have Un_h87 : Un h87 wv := Un_ag (my_ag.fr frh87 rfl) Ln_h79 Un_h79
        show wp l rho (d + 4) 39 27 [(2, 82), (0, x1), (9, 0)] [(0, v88)] h87 Q
        refine w_istore_n (ls' := [(2, 82), (0, x1), (0, v88)]) gz_39_27 gm_39 rfl rfl rfl ?_
        refine w_iload_n gz_39_28 rfl ?_
        refine w_iconst gz_39_29 (by decide) ?_
        refine w_iceq (t := 54) gz_39_30 rfl (fun u98 => by exfalso; omega) (fun u98 => ?_)
        refine w_aload_n gz_39_33 rfl ?_
        refine v_getR (j := 2) gz_39_34 rfl is_82 rd_5 rfl (fun v99 ev99 tv99 => ?_)
        refine w_iload_n gz_39_37 rfl ?_
        refine w_aload_n gz_39_38 rfl ?_
        refine w_getX (v := 1) gz_39_39 is_82 rd_5 rfl (by decide) rfl ?_
        refine w_getX (v := 2) gz_39_42 is_1 rd_3 rfl (by decide) rfl ?_
        refine w_iload_n gz_39_45 rfl ?_
        refine w_iald gz_39_46 is_2 rd_25 (by omega) (by omega) (fun v102 ev102 pv102 qv102 => ?_)
        refine w_inv (k := 1) (as := [(0, v102), (0, v88)]) (r := []) (x := v99) (ls0 := [(2, v99), (0, v88), (0, v102), (9, 0)]) gz_39_47 gm_45 rfl tv99 rd_4 rfl rfl rfl rfl rfl (c_Lens_startOnWall (d := (d + 2)) (x0 := v99) (x1 := v88) (x2 := v102) tv99 (by omega) (by omega) (by omega) (by omega) (fun h103 frh103 fxh103 w104 w105 w106 w107 w108 w109 w110 xp111 xp112 xp113 xp114 => ?_))
        have gh103 : my_fr [(4, 1), (4, 2), (4, 3), (4, 4), (4, 5), (4, 6), (4, 7), (4, 8), (4, 9), (5, 5), (5, 6), (5, 7), (5, 8), (5, 9), (37, -1), (38, -1)] h h103 := my_fr.tr gh87 (frh103.mo rfl)
        have Ln_h103 : Ln h103 := Ln_fx fxh103 (by first | assumption | omega) Ln_h87
        have Un_h103 : Un h103 wv := Un_fx fxh103 (by first | assumption | omega) Ln_h87 Un_h87
        show wp l rho (d + 4) 39 50 [(2, 82), (0, x1), (0, v88)] [] h103 Q
        have Sp_h103t115 : Sp h103 wv := Sp_wall fxh103 (by first | assumption | omega) Ln_h87 hwv0 xp111 xp112 xp113 xp114
        refine w_aload_n gz_39_50 rfl ?_
        refine w_inv (k := 0) (as := []) (r := []) (x := 82) (ls0 := [(2, 82)]) gz_39_51 gm_46 rfl is_82 rd_5 rfl rfl rfl rfl rfl (c_Reader_endPart_f0 (d := d)  (((my_fr.at frh103 is_82 rfl).trans w94).trans (by omega)) (fun h116 frh116 w117 w118 => ?_) (fun h119 frh119 w120 => ?_))
        ·
          have gh116 : my_fr [(4, 1), (4, 2), (4, 3), (4, 4), (4, 5), (4, 6), (4, 7), (4, 8), (4, 9), (5, 5), (5, 6), (5, 7), (5, 8), (5, 9), (37, -1), (38, -1)] h h116 := my_fr.tr gh103 (frh116.mo rfl)
          have Ln_h116 : Ln h116 := Ln_ag (my_ag.fr frh116 rfl) Ln_h103
          have Un_h116 : Un h116 wv := Un_ag (my_ag.fr frh116 rfl) Ln_h103 Un_h103
          have Sp_h116 : Sp h116 wv := Sp_ag (my_ag.fr frh116 rfl) hwv Ln_h103 Sp_h103t115
          show wp l rho (d + 4) 39 54 [(2, 82), (0, x1), (0, v88)] [] h116 Q
          refine w_goto (t := 132) gz_39_54 rfl ?_
          have c121 := (rfl : h116 82 9 = h116 82 9)
          exact w_vret gz_39_132 gm_39 (k0 h116 (gh116) (by omega) (by omega) Ln_h116 Un_h116)
        ·
          have gh119 : my_fr [(4, 1), (4, 2), (4, 3), (4, 4), (4, 5), (4, 6), (4, 7), (4, 8), (4, 9), (5, 5), (5, 6), (5, 7), (5, 8), (5, 9), (37, -1), (38, -1)] h h119 := my_fr.tr gh103 (frh119.mo rfl)
          have Ln_h119 : Ln h119 := Ln_ag (my_ag.fr frh119 rfl) Ln_h103
          have Un_h119 : Un h119 wv := Un_ag (my_ag.fr frh119 rfl) Ln_h103 Un_h103
          have Sp_h119 : Sp h119 wv := Sp_ag (my_ag.fr frh119 rfl) hwv Ln_h103 Sp_h103t115
          show wp l rho (d + 4) 39 54 [(2, 82), (0, x1), (0, v88)] [] h119 Q
          refine w_goto (t := 132) gz_39_54 rfl ?_
          have c122 := w120
          exact w_vret gz_39_132 gm_39 (k1 h119 (gh119) (by omega) (by first | exact Sp_h119 | assumption | omega | grind) Ln_h119 Un_h119)
end MYNReader_readFew_f0
