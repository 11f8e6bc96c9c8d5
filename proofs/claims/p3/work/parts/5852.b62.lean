/-! contracts, printed by wip/gen/gy.py -/
section MYNModel_findColumns5_f0
theorem c_Model_findColumns5_f0 {l : Launch} {rho : Nat → Int32} {d : Nat} {h : my_H} {Q : my_H → my_V → Prop} {x1 : Int} (a1 : 0 ≤ x1) (b1 : x1 ≤ 6) (cf : h 151 8 = 0) (n_Mw : Mw h) (hfp : Fp h x1) (h6 : x1 = 6 → h 167 6 = 0) (hlm : LmW h) (x5 : x1 ≤ 5) (k0 : ∀ (h' : my_H), my_fr [(10, 27), (10, 32), (10, 33), (73, -1), (74, -1), (75, -1), (76, -1), (77, -1), (78, -1), (79, -1)] h h' → h' 151 8 = 0 → (∃ W : Int → Int, MwW h W ∧ h' 151 27 = mwf h x1 (mst h W x1) (h 167 x1).toNat) → Fc h h' (h' 151 32) (-1) x1 → 1 ≤ h' 151 32 → CoS h h' x1 (mCW h x1) → h' 151 33 = mBs h x1 → Q h' (9, 0)) : wp l rho (d + 1) 179 0 [(2, 151), (0, x1), (9, 0), (9, 0)] [] h Q := by
  have nMw2 := n_Mw
  obtain ⟨W, hW⟩ := nMw2
  have tx9 : h 164 x1 = 1 := hfp.1 (by omega)
  have lm0 := hlm _ a1 x5 tx9
  have J11_0 : ∀ (n : Nat) (p11_0 : Int) (h11_0 : my_H), my_fr [(10, 27), (10, 32), (10, 33), (73, -1), (74, -1), (75, -1), (76, -1), (77, -1), (78, -1), (79, -1)] h h11_0 → 0 ≤ p11_0 → p11_0 ≤ 6 → h11_0 151 8 = 0 → Mw h11_0 → Fc h h11_0 (h11_0 151 32) (-1) x1 → 1 ≤ h11_0 151 32 → p11_0 ≤ h11_0 151 32 → h11_0 151 27 = (if p11_0 < h11_0 151 32 then mst h W (h11_0 177 p11_0) else mwf h x1 (mst h W x1) (h 167 x1).toNat) → h11_0 151 33 = mBs h x1 → (p11_0 < h11_0 151 32 → CoS h h11_0 x1 (mUn h (h11_0 177 p11_0))) → (p11_0 = h11_0 151 32 → CoS h h11_0 x1 (mCW h x1)) → 7 - p11_0 ≤ (n : Int) → wp l rho (d + 1) 179 11 [(2, 151), (0, x1), (0, p11_0), (9, 0)] [] h11_0 Q := by
    intro n
    induction n with
    | zero => intro p11_0 h11_0 gh_11_0 q0_11_0 q1_11_0 c151_8_11_0 n_Mw_11_0 fc_11_0 c1_11_0 lk_11_0 wk_11_0 b3_11_0 vk_11_0 ve_11_0 hm_11_0; exfalso; omega
    | succ n ih_11_0 =>
      intro p11_0 h11_0 gh_11_0 q0_11_0 q1_11_0 c151_8_11_0 n_Mw_11_0 fc_11_0 c1_11_0 lk_11_0 wk_11_0 b3_11_0 vk_11_0 ve_11_0 hm_11_0
      have J21_0 : ∀ (n : Nat) (p21_0 p21_1 : Int) (h21_0 : my_H), my_fr [(10, 27), (10, 32), (10, 33), (73, -1), (74, -1), (75, -1), (76, -1), (77, -1), (78, -1), (79, -1)] h h21_0 → p11_0 ≤ 5 → 0 ≤ p21_0 → p21_0 ≤ 6 → 1 ≤ p21_1 → p21_1 ≤ 6 → p11_0 ≤ (p21_1 - 1) → h21_0 151 32 = p21_1 → h21_0 151 8 = 0 → Mw h21_0 → Fc h h21_0 (h21_0 151 32) (-1) x1 → 1 ≤ h21_0 151 32 → p11_0 < h21_0 151 32 → h21_0 151 27 = mwf h (h21_0 177 p11_0) (mst h W (h21_0 177 p11_0)) p21_0.toNat → p21_0 ≤ h 167 (h21_0 177 p11_0) → h21_0 151 33 = mBs h x1 → CoS h h21_0 x1 (mPs h (h21_0 177 p11_0) (p21_0).toNat ++ mUn h (h21_0 177 p11_0)) → 7 - p21_0 ≤ (n : Int) → wp l rho (d + 1) 179 21 [(2, 151), (0, x1), (0, p11_0), (0, p21_0)] [] h21_0 Q := by
        intro n
        induction n with
        | zero => intro p21_0 p21_1 h21_0 gh_21_0 q0_21_0 q1_21_0 q2_21_0 q3_21_0 q4_21_0 q5_21_0 c151_32_21_0 c151_8_21_0 n_Mw_21_0 fc_21_0 c1_21_0 lk_21_0 wp_21_0 lp_21_0 b3_21_0 vp_21_0 hm_21_0; exfalso; omega
        | succ n ih_21_0 =>
          intro p21_0 p21_1 h21_0 gh_21_0 q0_21_0 q1_21_0 q2_21_0 q3_21_0 q4_21_0 q5_21_0 c151_32_21_0 c151_8_21_0 n_Mw_21_0 fc_21_0 c1_21_0 lk_21_0 wp_21_0 lp_21_0 b3_21_0 vp_21_0 hm_21_0
          have qr := fc_21_0.2.2.2.2.2 p11_0 (by omega) lk_21_0
          have qm := Fc_mok hW h6 hfp.1 fc_21_0 (by omega : 0 ≤ p11_0) lk_21_0
          have f167 : ∀ j : Int, h21_0 167 j = h 167 j := fun j => my_fr.at gh_21_0 is_167 rfl
          have tq := Fc_told x5 tx9 a1 fc_21_0 (by omega : 0 ≤ p11_0) lk_21_0
          refine w_iload_n gz_179_21 rfl ?_
          refine w_aload_n gz_179_22 rfl ?_
          refine w_getX (v := 167) gz_179_23 is_151 rd_10 rfl (by decide) rfl ?_
          refine w_aload_n gz_179_26 rfl ?_
          refine w_getX (v := 177) gz_179_27 is_151 rd_10 rfl (by decide) rfl ?_
          refine w_iload_n gz_179_30 rfl ?_
          refine w_iald gz_179_31 is_177 rd_76 (by omega) (by omega) (fun v3 ev3 pv3 qv3 => ?_)
          have e32 : v3 = h21_0 177 p11_0 := by omega
          have f32 := f167 v3
          refine w_iald gz_179_32 is_167 rd_66 (by omega) (by omega) (fun v4 ev4 pv4 qv4 => ?_)
          have e33 : v4 = h 167 (h21_0 177 p11_0) := by rw [← e32]; omega
          refine w_icge (t := 57) gz_179_33 rfl (fun u5 => ?_) (fun u5 => ?_)
          ·
            have e57 : h 167 (h21_0 177 p11_0) = p21_0 := by omega
            refine w_iinc (ls' := [(2, 151), (0, x1), (0, (p11_0 + 1)), (0, p21_0)]) gz_179_57 rfl gm_179 rfl rfl rfl ⟨by omega, by omega⟩ ?_
            refine w_goto (t := 11) gz_179_60 rfl ?_
            have ca : ∀ j : Int, h21_0 177 j = h21_0 177 j := fun _ => rfl
            have ce6 : h21_0 151 32 = p21_1 := c151_32_21_0
            refine w_weak (ls' := [(2, 151), (0, x1), (0, (p11_0 + 1)), (9, 0)]) (wk_e (wk_e (wk_e (wk_9 wk_n)))) ?_
            exact ih_11_0 ((p11_0 + 1)) h21_0 (gh_21_0) (by omega) (by omega) (c151_8_21_0.trans (by omega)) n_Mw_21_0 (by first | (rw [show h21_0 151 32 = h21_0 151 32 by omega]; exact Fc_cg ca (by omega) fc_21_0) | exact fc_21_0 | exact fc_11_0 | (rw [show h21_0 151 32 = h11_0 151 32 by omega]; exact Fc_cg ca (by omega) fc_11_0) | (rw [show h21_0 151 32 = h 151 32 by omega]; exact Fc_cg ca (by omega) fc0) | omega) (by first | assumption | omega | (subst_vars; omega) | omega) (by first | assumption | omega | (subst_vars; omega) | omega) (by first | (rw [if_pos (by omega), ca, Fc_first (W := W) fc0 (by omega)]; omega) | (by_cases q : (p11_0 + 1) < h21_0 151 32; (rw [if_pos q, ca, Fc_next hW fc_21_0 (by omega) (by omega), e57]; exact wp_21_0); (rw [if_neg q]; have q2 := Fc_last fc_21_0 (by omega); rw [show h21_0 151 32 - 1 = p11_0 by omega] at q2; rw [← q2, e57]; exact wp_21_0)) | omega) (by first | omega | exact b3_11_0 | exact b3_21_0 | assumption | omega) (by first | (intro _; rw [ca, Fc_bot fc0 (by omega)]; exact cs0) | (intro q; rw [Fc_un fc_21_0 (by omega) (by omega), (mCW_eq hW tq.1 tq.2.1 tq.2.2).1]; have z := vp_21_0; rw [show (p21_0).toNat = (h 167 (h21_0 177 p11_0)).toNat by omega] at z; exact z) | assumption | omega) (by first | (intro z; exfalso; omega) | (intro q; have e2 : h21_0 177 p11_0 = x1 := (by have e := fc_21_0.2.2.2.1 (by omega); rw [show h21_0 151 32 - 1 = p11_0 by omega] at e; exact e); have z := vp_21_0; rw [show (p21_0).toNat = (h 167 (h21_0 177 p11_0)).toNat by omega, ← (mCW_eq hW tq.1 tq.2.1 tq.2.2).1, e2] at z; exact z) | assumption | omega) (by omega)
          ·
            refine w_aload_n gz_179_36 rfl ?_
            refine w_bipush gz_179_37 (by decide) ?_
            refine w_aload_n gz_179_39 rfl ?_
            refine w_getX (v := 177) gz_179_40 is_151 rd_10 rfl (by decide) rfl ?_
            refine w_iload_n gz_179_43 rfl ?_
            refine w_iald gz_179_44 is_177 rd_76 (by omega) (by omega) (fun v8 ev8 pv8 qv8 => ?_)
            have zv8 := ev8.trans ev3.symm
            refine w_imul gz_179_45 ⟨by omega, by omega⟩ ?_
            refine w_iload_n gz_179_46 rfl ?_
            refine w_iadd gz_179_47 ⟨by omega, by omega⟩ ?_
            have qa := mok_at qm (s := p21_0) (by omega) (by omega)
            have qs := mwf_at (h := h) (w := h21_0 177 p11_0) (c := mst h W (h21_0 177 p11_0)) (s := p21_0) (by omega)
            have f168 : ∀ j : Int, h21_0 168 j = h 168 j := fun j => my_fr.at gh_21_0 is_168 rfl
            have f170 : ∀ j : Int, h21_0 170 j = h 170 j := fun j => my_fr.at gh_21_0 is_170 rfl
            have f157 : ∀ j : Int, h21_0 157 j = h 157 j := fun j => my_fr.at gh_21_0 is_157 rfl
            have f171 : ∀ j : Int, h21_0 171 j = h 171 j := fun j => my_fr.at gh_21_0 is_171 rfl
            have ep : ((6 * v8) + p21_0) = 6 * h21_0 177 p11_0 + p21_0 := by omega
            have agP : my_ag LmF h h21_0 := my_ag.fr gh_21_0 rfl
            have wf9 := Fc_wf hW hlm a1 x5 tx9 fc_21_0 b3_21_0 (by omega : 0 ≤ p11_0) lk_21_0 (by omega : 0 ≤ p21_0) (by omega)
            refine w_inv (k := 1) (as := [(0, ((6 * v8) + p21_0))]) (r := []) (x := 151) (ls0 := [(2, 151), (0, ((6 * v8) + p21_0)), (9, 0)]) gz_179_48 gm_182 rfl is_151 rd_10 rfl rfl rfl rfl rfl (c_Model_pane5_f0 (d := d) (x1 := ((6 * v8) + p21_0)) (by omega) (by omega) (c151_8_21_0.trans (by omega)) (by rw [ep, f168, f170, f157]; intro q; have := qa.1 q; omega) ((by intro k3; have q := Pk_at agP (by rw [ep]; exact wf9) k3; rw [← vp_21_0.2] at q; exact q)) (fun h9 frh9 w10 xp11 xp12 xp13 => ?_))
            have gh9 : my_fr [(10, 27), (10, 32), (10, 33), (73, -1), (74, -1), (75, -1), (76, -1), (77, -1), (78, -1), (79, -1)] h h9 := my_fr.tr gh_21_0 (frh9.mo rfl)
            have Mw_h9 : Mw h9 := Mw_ag (my_ag.fr frh9 rfl) n_Mw_21_0
            show wp l rho (d + 1) 179 51 [(2, 151), (0, x1), (0, p11_0), (0, p21_0)] [] h9 Q
            have xw := xp11
            rw [ep, wp_21_0] at xw
            have msE : ∀ q c : Int, ms h21_0 q c = ms h q c := fun q c => by unfold ms; rw [f168, f170, f157, f171]
            rw [msE] at xw
            have vq := CoS_pane agP vp_21_0 xp13 xp11 (by rw [ep]; exact wf9)
            rw [ep, ← mPs_s (by omega)] at vq
            refine w_iinc (ls' := [(2, 151), (0, x1), (0, p11_0), (0, (p21_0 + 1))]) gz_179_51 rfl gm_179 rfl rfl rfl ⟨by omega, by omega⟩ ?_
            refine w_goto (t := 21) gz_179_54 rfl ?_
            have ca : ∀ j : Int, h9 177 j = h21_0 177 j := fun j => ((my_fr.at frh9 is_177 rfl).trans (rfl : h21_0 177 j = h21_0 177 j))
            have ce14 : h9 151 32 = p21_1 := ((my_fr.at frh9 is_151 rfl).trans c151_32_21_0)
            have ce15 : h9 151 33 = h21_0 151 33 := ((my_fr.at frh9 is_151 rfl).trans (rfl : h21_0 151 33 = h21_0 151 33))
            exact ih_21_0 ((p21_0 + 1)) (p21_1) h9 (gh9) (by omega) (by omega) (by omega) (by omega) (by omega) (by omega) (((my_fr.at frh9 is_151 rfl).trans c151_32_21_0).trans (by omega)) (((my_fr.at frh9 is_151 rfl).trans c151_8_21_0).trans (by omega)) Mw_h9 (by first | (rw [show h9 151 32 = h21_0 151 32 by omega]; exact Fc_cg ca (by omega) fc_21_0) | exact fc_21_0 | exact fc_11_0 | (rw [show h9 151 32 = h11_0 151 32 by omega]; exact Fc_cg ca (by omega) fc_11_0) | (rw [show h9 151 32 = h 151 32 by omega]; exact Fc_cg ca (by omega) fc0) | omega) (by first | assumption | omega | (subst_vars; omega) | omega) (by first | assumption | omega | (subst_vars; omega) | omega) (by first | (rw [ca, qs]; exact xw) | (rw [ca]; have q := wk_11_0; rw [if_pos (by omega)] at q; exact q) | (have q := wk_11_0; rw [if_pos (by omega)] at q; exact q) | omega) (by first | omega | (rw [ca]; omega) | omega) (by first | omega | exact b3_11_0 | exact b3_21_0 | assumption | omega) (by first | exact vk_11_0 (by omega) | (rw [ca]; exact vq) | assumption | omega) (by omega)
      refine w_iload_n gz_179_11 rfl ?_
      refine w_aload_n gz_179_12 rfl ?_
      refine v_getI (j := 32) gz_179_13 rfl is_151 rd_10 rfl (fun v16 ev16 pv16 qv16 => ?_)
      refine w_icge (t := 63) gz_179_16 rfl (fun u17 => ?_) (fun u17 => ?_)
      ·
        have c18 := c151_8_11_0
        exact w_vret gz_179_63 gm_179 (k0 h11_0 (gh_11_0) (by omega) (by first | exact ve_11_0 (by omega) | exact b3_11_0 | exact (by first | omega | exact fc_11_0 | exact ⟨W, hW, by have q := wk_11_0; rw [if_neg (by omega)] at q; exact q⟩) | assumption | omega) (by first | exact ve_11_0 (by omega) | exact b3_11_0 | exact (by first | omega | exact fc_11_0 | exact ⟨W, hW, by have q := wk_11_0; rw [if_neg (by omega)] at q; exact q⟩) | assumption | omega) (by first | exact ve_11_0 (by omega) | exact b3_11_0 | exact (by first | omega | exact fc_11_0 | exact ⟨W, hW, by have q := wk_11_0; rw [if_neg (by omega)] at q; exact q⟩) | assumption | omega) (by first | exact ve_11_0 (by omega) | exact b3_11_0 | exact (by first | omega | exact fc_11_0 | exact ⟨W, hW, by have q := wk_11_0; rw [if_neg (by omega)] at q; exact q⟩) | assumption | omega) (by first | exact ve_11_0 (by omega) | exact b3_11_0 | exact (by first | omega | exact fc_11_0 | exact ⟨W, hW, by have q := wk_11_0; rw [if_neg (by omega)] at q; exact q⟩) | assumption | omega))
      ·
        have qr0 := fc_11_0.2.2.2.2.2 p11_0 (by omega) (by omega)
        refine v_knowA (x := 167) is_167 rd_66 (fun kP => ?_)
        have kq := kP (h11_0 177 p11_0) (by omega) (by omega)
        have k7 : h11_0 167 (h11_0 177 p11_0) = h 167 (h11_0 177 p11_0) := my_fr.at gh_11_0 is_167 rfl
        refine w_iconst gz_179_19 (by decide) ?_
        refine w_istore_n (ls' := [(2, 151), (0, x1), (0, p11_0), (0, 0)]) gz_179_20 gm_179 rfl rfl rfl ?_
        have ca : ∀ j : Int, h11_0 177 j = h11_0 177 j := fun _ => rfl
        have ce19 : h11_0 151 32 = v16 := ev16.symm
        exact J21_0 7 (0) (v16) h11_0 (gh_11_0) (by omega) (by omega) (by omega) (by omega) (by omega) (by omega) (ev16.symm.trans (by omega)) (c151_8_11_0.trans (by omega)) n_Mw_11_0 (by first | (rw [show h11_0 151 32 = h21_0 151 32 by omega]; exact Fc_cg ca (by omega) fc_21_0) | exact fc_21_0 | exact fc_11_0 | (rw [show h11_0 151 32 = h11_0 151 32 by omega]; exact Fc_cg ca (by omega) fc_11_0) | (rw [show h11_0 151 32 = h 151 32 by omega]; exact Fc_cg ca (by omega) fc0) | omega) (by first | assumption | omega | (subst_vars; omega) | omega) (by first | assumption | omega | (subst_vars; omega) | omega) (by first | (rw [ca, qs]; exact xw) | (rw [ca]; have q := wk_11_0; rw [if_pos (by omega)] at q; exact q) | (have q := wk_11_0; rw [if_pos (by omega)] at q; exact q) | omega) (by first | omega | (rw [ca]; omega) | omega) (by first | omega | exact b3_11_0 | exact b3_21_0 | assumption | omega) (by first | exact vk_11_0 (by omega) | (rw [ca]; exact vq) | assumption | omega) (by omega)
  refine w_aload_n gz_179_0 rfl ?_
  refine w_iload_n gz_179_1 rfl ?_
  refine w_inv (k := 2) (as := [(0, x1)]) (r := []) (x := 151) (ls0 := [(2, 151), (0, x1), (9, 0), (9, 0)]) gz_179_2 gm_180 rfl is_151 rd_10 rfl rfl rfl rfl rfl (c_Model_findChain_f0 (d := d) (x1 := x1) (by omega) (by omega) (cf.trans (by omega)) n_Mw (by first | assumption | exact no_such_saying | exact Fp_told (by omega) (by omega) | omega | (subst_vars; omega) | omega) (fun h20 frh20 w21 xp22 xp23 xp24 => ?_))
  have gh20 : my_fr [(10, 27), (10, 32), (10, 33), (73, -1), (74, -1), (75, -1), (76, -1), (77, -1), (78, -1), (79, -1)] h h20 := my_fr.tr my_fr.rf (frh20.mo rfl)
  have Mw_h20 : Mw h20 := Mw_ag (my_ag.fr frh20 rfl) n_Mw
  show wp l rho (d + 1) 179 5 [(2, 151), (0, x1), (9, 0), (9, 0)] [] h20 Q
  have fc0 := xp22
  have fc1 := xp23
  have fc2 := xp24
  have b157 : h20 157 (h20 151 33) = h 157 (h20 151 33) := my_fr.at gh20 is_157 rfl
  have fb0 := Fc_bs hW a1 x5 tx9 xp22 (by omega)
  have e33c : h20 151 33 = mBs h x1 := fb0
  refine w_aload_n gz_179_5 rfl ?_
  refine w_inv (k := 1) (as := []) (r := []) (x := 151) (ls0 := [(2, 151), (9, 0)]) gz_179_6 gm_181 rfl is_151 rd_10 rfl rfl rfl rfl rfl (c_Model_beginsColumns5_f0 (d := d)  (((my_fr.at frh20 is_151 rfl).trans cf).trans (by omega)) (fun h25 frh25 w26 w27 w28 xp29 xp30 xp31 => ?_))
  have gh25 : my_fr [(10, 27), (10, 32), (10, 33), (73, -1), (74, -1), (75, -1), (76, -1), (77, -1), (78, -1), (79, -1)] h h25 := my_fr.tr gh20 (frh25.mo rfl)
  have Mw_h25 : Mw h25 := Mw_ag (my_ag.fr frh25 rfl) Mw_h20
  show wp l rho (d + 1) 179 9 [(2, 151), (0, x1), (9, 0), (9, 0)] [] h25 Q
  have g33 : h25 151 33 = h20 151 33 := my_fr.at frh25 pis_151 rfl
  have cs0 : CoS h h25 x1 ([]) := CoS_0 xp31 e33c (by rw [e33c]; exact lm0.2.1) (by rw [e33c]; exact lm0.2.2.1) lm0.2.2.2.2 (by rw [← e33c]; omega)
  refine w_iconst gz_179_9 (by decide) ?_
  refine w_istore_n (ls' := [(2, 151), (0, x1), (0, 0), (9, 0)]) gz_179_10 gm_179 rfl rfl rfl ?_
  have ca : ∀ j : Int, h25 177 j = h20 177 j := fun j => ((my_fr.at frh25 is_177 rfl).trans (rfl : h20 177 j = h20 177 j))
  have ce32 : h25 151 32 = h20 151 32 := ((my_fr.at frh25 is_151 rfl).trans (rfl : h20 151 32 = h20 151 32))
  have ce33 : h25 151 33 = h20 151 33 := ((my_fr.at frh25 is_151 rfl).trans (rfl : h20 151 33 = h20 151 33))
  have ce34 : h25 151 27 = (h25 151 27) := (rfl : h25 151 27 = h25 151 27)
  exact J11_0 7 (0) h25 (gh25) (by omega) (by omega) (((my_fr.at frh25 is_151 rfl).trans ((my_fr.at frh20 is_151 rfl).trans cf)).trans (by omega)) Mw_h25 (by first | (rw [show h25 151 32 = h21_0 151 32 by omega]; exact Fc_cg ca (by omega) fc_21_0) | exact fc_21_0 | exact fc_11_0 | (rw [show h25 151 32 = h11_0 151 32 by omega]; exact Fc_cg ca (by omega) fc_11_0) | (rw [show h25 151 32 = h20 151 32 by omega]; exact Fc_cg ca (by omega) fc0) | omega) (by first | assumption | omega | (subst_vars; omega) | omega) (by first | assumption | omega | (subst_vars; omega) | omega) (by first | (rw [if_pos (by omega), ca, Fc_first (W := W) fc0 (by omega)]; omega) | (by_cases q : 0 < h25 151 32; (rw [if_pos q, ca, Fc_next hW fc_21_0 (by omega) (by omega), e57]; exact wp_21_0); (rw [if_neg q]; have q2 := Fc_last fc_21_0 (by omega); rw [show h25 151 32 - 1 = p11_0 by omega] at q2; rw [← q2, e57]; exact wp_21_0)) | omega) (by first | omega | exact b3_11_0 | exact b3_21_0 | assumption | omega) (by first | (intro _; rw [ca, Fc_bot fc0 (by omega)]; exact cs0) | (intro q; rw [Fc_un fc_21_0 (by omega) (by omega), (mCW_eq hW tq.1 tq.2.1 tq.2.2).1]; have z := vp_21_0; rw [show (0).toNat = (h 167 (h25 177 p11_0)).toNat by omega] at z; exact z) | assumption | omega) (by first | (intro z; exfalso; omega) | (intro q; have e2 : h25 177 p11_0 = x1 := (by have e := fc_21_0.2.2.2.1 (by omega); rw [show h25 151 32 - 1 = p11_0 by omega] at e; exact e); have z := vp_21_0; rw [show (0).toNat = (h 167 (h25 177 p11_0)).toNat by omega, ← (mCW_eq hW tq.1 tq.2.1 tq.2.2).1, e2] at z; exact z) | assumption | omega) (by omega)
theorem c_Model_findColumns5 {l : Launch} {rho : Nat → Int32} {d : Nat} {h : my_H} {Q : my_H → my_V → Prop} {x1 : Int} (a1 : 0 ≤ x1) (b1 : x1 ≤ 6) (n_Mw : Mw h) (hfp : Fp h x1) (h6 : x1 = 6 → h 167 6 = 0) (hlm : LmW h) (x5 : x1 ≤ 5) (k0 : ∀ (h' : my_H), my_fr [(10, 27), (10, 32), (10, 33), (73, -1), (74, -1), (75, -1), (76, -1), (77, -1), (78, -1), (79, -1)] h h' → (∃ W : Int → Int, MwW h W ∧ h' 151 27 = mwf h x1 (mst h W x1) (h 167 x1).toNat) → Fc h h' (h' 151 32) (-1) x1 → 1 ≤ h' 151 32 → CoS h h' x1 (mCW h x1) → h' 151 33 = mBs h x1 → Q h' (9, 0)) : wp l rho (d + 1) 179 0 [(2, 151), (0, x1), (9, 0), (9, 0)] [] h Q := by
  have nMw2 := n_Mw
  obtain ⟨W, hW⟩ := nMw2
  have tx9 : h 164 x1 = 1 := hfp.1 (by omega)
  have lm0 := hlm _ a1 x5 tx9
  have J11_0 : ∀ (n : Nat) (p11_0 : Int) (h11_0 : my_H), my_fr [(10, 27), (10, 32), (10, 33), (73, -1), (74, -1), (75, -1), (76, -1), (77, -1), (78, -1), (79, -1)] h h11_0 → 0 ≤ p11_0 → p11_0 ≤ 6 → Mw h11_0 → Fc h h11_0 (h11_0 151 32) (-1) x1 → 1 ≤ h11_0 151 32 → p11_0 ≤ h11_0 151 32 → h11_0 151 27 = (if p11_0 < h11_0 151 32 then mst h W (h11_0 177 p11_0) else mwf h x1 (mst h W x1) (h 167 x1).toNat) → h11_0 151 33 = mBs h x1 → (p11_0 < h11_0 151 32 → CoS h h11_0 x1 (mUn h (h11_0 177 p11_0))) → (p11_0 = h11_0 151 32 → CoS h h11_0 x1 (mCW h x1)) → 7 - p11_0 ≤ (n : Int) → wp l rho (d + 1) 179 11 [(2, 151), (0, x1), (0, p11_0), (9, 0)] [] h11_0 Q := by
    intro n
    induction n with
    | zero => intro p11_0 h11_0 gh_11_0 q0_11_0 q1_11_0 n_Mw_11_0 fc_11_0 c1_11_0 lk_11_0 wk_11_0 b3_11_0 vk_11_0 ve_11_0 hm_11_0; exfalso; omega
    | succ n ih_11_0 =>
      intro p11_0 h11_0 gh_11_0 q0_11_0 q1_11_0 n_Mw_11_0 fc_11_0 c1_11_0 lk_11_0 wk_11_0 b3_11_0 vk_11_0 ve_11_0 hm_11_0
      have J21_0 : ∀ (n : Nat) (p21_0 p21_1 : Int) (h21_0 : my_H), my_fr [(10, 27), (10, 32), (10, 33), (73, -1), (74, -1), (75, -1), (76, -1), (77, -1), (78, -1), (79, -1)] h h21_0 → p11_0 ≤ 5 → 0 ≤ p21_0 → p21_0 ≤ 6 → 1 ≤ p21_1 → p21_1 ≤ 6 → p11_0 ≤ (p21_1 - 1) → h21_0 151 32 = p21_1 → Mw h21_0 → Fc h h21_0 (h21_0 151 32) (-1) x1 → 1 ≤ h21_0 151 32 → p11_0 < h21_0 151 32 → h21_0 151 27 = mwf h (h21_0 177 p11_0) (mst h W (h21_0 177 p11_0)) p21_0.toNat → p21_0 ≤ h 167 (h21_0 177 p11_0) → h21_0 151 33 = mBs h x1 → CoS h h21_0 x1 (mPs h (h21_0 177 p11_0) (p21_0).toNat ++ mUn h (h21_0 177 p11_0)) → 7 - p21_0 ≤ (n : Int) → wp l rho (d + 1) 179 21 [(2, 151), (0, x1), (0, p11_0), (0, p21_0)] [] h21_0 Q := by
        intro n
        induction n with
        | zero => intro p21_0 p21_1 h21_0 gh_21_0 q0_21_0 q1_21_0 q2_21_0 q3_21_0 q4_21_0 q5_21_0 c151_32_21_0 n_Mw_21_0 fc_21_0 c1_21_0 lk_21_0 wp_21_0 lp_21_0 b3_21_0 vp_21_0 hm_21_0; exfalso; omega
        | succ n ih_21_0 =>
          intro p21_0 p21_1 h21_0 gh_21_0 q0_21_0 q1_21_0 q2_21_0 q3_21_0 q4_21_0 q5_21_0 c151_32_21_0 n_Mw_21_0 fc_21_0 c1_21_0 lk_21_0 wp_21_0 lp_21_0 b3_21_0 vp_21_0 hm_21_0
          have qr := fc_21_0.2.2.2.2.2 p11_0 (by omega) lk_21_0
          have qm := Fc_mok hW h6 hfp.1 fc_21_0 (by omega : 0 ≤ p11_0) lk_21_0
          have f167 : ∀ j : Int, h21_0 167 j = h 167 j := fun j => my_fr.at gh_21_0 is_167 rfl
          have tq := Fc_told x5 tx9 a1 fc_21_0 (by omega : 0 ≤ p11_0) lk_21_0
          refine w_iload_n gz_179_21 rfl ?_
          refine w_aload_n gz_179_22 rfl ?_
          refine w_getX (v := 167) gz_179_23 is_151 rd_10 rfl (by decide) rfl ?_
          refine w_aload_n gz_179_26 rfl ?_
          refine w_getX (v := 177) gz_179_27 is_151 rd_10 rfl (by decide) rfl ?_
          refine w_iload_n gz_179_30 rfl ?_
          refine w_iald gz_179_31 is_177 rd_76 (by omega) (by omega) (fun v3 ev3 pv3 qv3 => ?_)
          have e32 : v3 = h21_0 177 p11_0 := by omega
          have f32 := f167 v3
          refine w_iald gz_179_32 is_167 rd_66 (by omega) (by omega) (fun v4 ev4 pv4 qv4 => ?_)
          have e33 : v4 = h 167 (h21_0 177 p11_0) := by rw [← e32]; omega
          refine w_icge (t := 57) gz_179_33 rfl (fun u5 => ?_) (fun u5 => ?_)
          ·
            have e57 : h 167 (h21_0 177 p11_0) = p21_0 := by omega
            refine w_iinc (ls' := [(2, 151), (0, x1), (0, (p11_0 + 1)), (0, p21_0)]) gz_179_57 rfl gm_179 rfl rfl rfl ⟨by omega, by omega⟩ ?_
            refine w_goto (t := 11) gz_179_60 rfl ?_
            have ca : ∀ j : Int, h21_0 177 j = h21_0 177 j := fun _ => rfl
            have ce6 : h21_0 151 32 = p21_1 := c151_32_21_0
            refine w_weak (ls' := [(2, 151), (0, x1), (0, (p11_0 + 1)), (9, 0)]) (wk_e (wk_e (wk_e (wk_9 wk_n)))) ?_
            exact ih_11_0 ((p11_0 + 1)) h21_0 (gh_21_0) (by omega) (by omega) n_Mw_21_0 (by first | (rw [show h21_0 151 32 = h21_0 151 32 by omega]; exact Fc_cg ca (by omega) fc_21_0) | exact fc_21_0 | exact fc_11_0 | (rw [show h21_0 151 32 = h11_0 151 32 by omega]; exact Fc_cg ca (by omega) fc_11_0) | (rw [show h21_0 151 32 = h 151 32 by omega]; exact Fc_cg ca (by omega) fc0) | omega) (by first | assumption | omega | (subst_vars; omega) | omega) (by first | assumption | omega | (subst_vars; omega) | omega) (by first | (rw [if_pos (by omega), ca, Fc_first (W := W) fc0 (by omega)]; omega) | (by_cases q : (p11_0 + 1) < h21_0 151 32; (rw [if_pos q, ca, Fc_next hW fc_21_0 (by omega) (by omega), e57]; exact wp_21_0); (rw [if_neg q]; have q2 := Fc_last fc_21_0 (by omega); rw [show h21_0 151 32 - 1 = p11_0 by omega] at q2; rw [← q2, e57]; exact wp_21_0)) | omega) (by first | omega | exact b3_11_0 | exact b3_21_0 | assumption | omega) (by first | (intro _; rw [ca, Fc_bot fc0 (by omega)]; exact cs0) | (intro q; rw [Fc_un fc_21_0 (by omega) (by omega), (mCW_eq hW tq.1 tq.2.1 tq.2.2).1]; have z := vp_21_0; rw [show (p21_0).toNat = (h 167 (h21_0 177 p11_0)).toNat by omega] at z; exact z) | assumption | omega) (by first | (intro z; exfalso; omega) | (intro q; have e2 : h21_0 177 p11_0 = x1 := (by have e := fc_21_0.2.2.2.1 (by omega); rw [show h21_0 151 32 - 1 = p11_0 by omega] at e; exact e); have z := vp_21_0; rw [show (p21_0).toNat = (h 167 (h21_0 177 p11_0)).toNat by omega, ← (mCW_eq hW tq.1 tq.2.1 tq.2.2).1, e2] at z; exact z) | assumption | omega) (by omega)
          ·
            refine w_aload_n gz_179_36 rfl ?_
            refine w_bipush gz_179_37 (by decide) ?_
            refine w_aload_n gz_179_39 rfl ?_
            refine w_getX (v := 177) gz_179_40 is_151 rd_10 rfl (by decide) rfl ?_
            refine w_iload_n gz_179_43 rfl ?_
            refine w_iald gz_179_44 is_177 rd_76 (by omega) (by omega) (fun v8 ev8 pv8 qv8 => ?_)
            have zv8 := ev8.trans ev3.symm
            refine w_imul gz_179_45 ⟨by omega, by omega⟩ ?_
            refine w_iload_n gz_179_46 rfl ?_
            refine w_iadd gz_179_47 ⟨by omega, by omega⟩ ?_
            have qa := mok_at qm (s := p21_0) (by omega) (by omega)
            have qs := mwf_at (h := h) (w := h21_0 177 p11_0) (c := mst h W (h21_0 177 p11_0)) (s := p21_0) (by omega)
            have f168 : ∀ j : Int, h21_0 168 j = h 168 j := fun j => my_fr.at gh_21_0 is_168 rfl
            have f170 : ∀ j : Int, h21_0 170 j = h 170 j := fun j => my_fr.at gh_21_0 is_170 rfl
            have f157 : ∀ j : Int, h21_0 157 j = h 157 j := fun j => my_fr.at gh_21_0 is_157 rfl
            have f171 : ∀ j : Int, h21_0 171 j = h 171 j := fun j => my_fr.at gh_21_0 is_171 rfl
            have ep : ((6 * v8) + p21_0) = 6 * h21_0 177 p11_0 + p21_0 := by omega
            have agP : my_ag LmF h h21_0 := my_ag.fr gh_21_0 rfl
            have wf9 := Fc_wf hW hlm a1 x5 tx9 fc_21_0 b3_21_0 (by omega : 0 ≤ p11_0) lk_21_0 (by omega : 0 ≤ p21_0) (by omega)
            refine w_inv (k := 1) (as := [(0, ((6 * v8) + p21_0))]) (r := []) (x := 151) (ls0 := [(2, 151), (0, ((6 * v8) + p21_0)), (9, 0)]) gz_179_48 gm_182 rfl is_151 rd_10 rfl rfl rfl rfl rfl (c_Model_pane5 (d := d) (x1 := ((6 * v8) + p21_0)) (by omega) (by omega) (by rw [ep, f168, f170, f157]; intro q; have := qa.1 q; omega) ((by intro k3; have q := Pk_at agP (by rw [ep]; exact wf9) k3; rw [← vp_21_0.2] at q; exact q)) (fun h9 frh9 xp10 xp11 xp12 => ?_))
            have gh9 : my_fr [(10, 27), (10, 32), (10, 33), (73, -1), (74, -1), (75, -1), (76, -1), (77, -1), (78, -1), (79, -1)] h h9 := my_fr.tr gh_21_0 (frh9.mo rfl)
            have Mw_h9 : Mw h9 := Mw_ag (my_ag.fr frh9 rfl) n_Mw_21_0
            show wp l rho (d + 1) 179 51 [(2, 151), (0, x1), (0, p11_0), (0, p21_0)] [] h9 Q
            have xw := xp10
            rw [ep, wp_21_0] at xw
            have msE : ∀ q c : Int, ms h21_0 q c = ms h q c := fun q c => by unfold ms; rw [f168, f170, f157, f171]
            rw [msE] at xw
            have vq := CoS_pane agP vp_21_0 xp12 xp10 (by rw [ep]; exact wf9)
            rw [ep, ← mPs_s (by omega)] at vq
            refine w_iinc (ls' := [(2, 151), (0, x1), (0, p11_0), (0, (p21_0 + 1))]) gz_179_51 rfl gm_179 rfl rfl rfl ⟨by omega, by omega⟩ ?_
            refine w_goto (t := 21) gz_179_54 rfl ?_
            have ca : ∀ j : Int, h9 177 j = h21_0 177 j := fun j => ((my_fr.at frh9 is_177 rfl).trans (rfl : h21_0 177 j = h21_0 177 j))
            have ce13 : h9 151 32 = p21_1 := ((my_fr.at frh9 is_151 rfl).trans c151_32_21_0)
            have ce14 : h9 151 33 = h21_0 151 33 := ((my_fr.at frh9 is_151 rfl).trans (rfl : h21_0 151 33 = h21_0 151 33))
            exact ih_21_0 ((p21_0 + 1)) (p21_1) h9 (gh9) (by omega) (by omega) (by omega) (by omega) (by omega) (by omega) (((my_fr.at frh9 is_151 rfl).trans c151_32_21_0).trans (by omega)) Mw_h9 (by first | (rw [show h9 151 32 = h21_0 151 32 by omega]; exact Fc_cg ca (by omega) fc_21_0) | exact fc_21_0 | exact fc_11_0 | (rw [show h9 151 32 = h11_0 151 32 by omega]; exact Fc_cg ca (by omega) fc_11_0) | (rw [show h9 151 32 = h 151 32 by omega]; exact Fc_cg ca (by omega) fc0) | omega) (by first | assumption | omega | (subst_vars; omega) | omega) (by first | assumption | omega | (subst_vars; omega) | omega) (by first | (rw [ca, qs]; exact xw) | (rw [ca]; have q := wk_11_0; rw [if_pos (by omega)] at q; exact q) | (have q := wk_11_0; rw [if_pos (by omega)] at q; exact q) | omega) (by first | omega | (rw [ca]; omega) | omega) (by first | omega | exact b3_11_0 | exact b3_21_0 | assumption | omega) (by first | exact vk_11_0 (by omega) | (rw [ca]; exact vq) | assumption | omega) (by omega)
      refine w_iload_n gz_179_11 rfl ?_
      refine w_aload_n gz_179_12 rfl ?_
      refine v_getI (j := 32) gz_179_13 rfl is_151 rd_10 rfl (fun v15 ev15 pv15 qv15 => ?_)
      refine w_icge (t := 63) gz_179_16 rfl (fun u16 => ?_) (fun u16 => ?_)
      ·
        exact w_vret gz_179_63 gm_179 (k0 h11_0 (gh_11_0) (by first | exact ve_11_0 (by omega) | exact b3_11_0 | exact (by first | omega | exact fc_11_0 | exact ⟨W, hW, by have q := wk_11_0; rw [if_neg (by omega)] at q; exact q⟩) | assumption | omega) (by first | exact ve_11_0 (by omega) | exact b3_11_0 | exact (by first | omega | exact fc_11_0 | exact ⟨W, hW, by have q := wk_11_0; rw [if_neg (by omega)] at q; exact q⟩) | assumption | omega) (by first | exact ve_11_0 (by omega) | exact b3_11_0 | exact (by first | omega | exact fc_11_0 | exact ⟨W, hW, by have q := wk_11_0; rw [if_neg (by omega)] at q; exact q⟩) | assumption | omega) (by first | exact ve_11_0 (by omega) | exact b3_11_0 | exact (by first | omega | exact fc_11_0 | exact ⟨W, hW, by have q := wk_11_0; rw [if_neg (by omega)] at q; exact q⟩) | assumption | omega) (by first | exact ve_11_0 (by omega) | exact b3_11_0 | exact (by first | omega | exact fc_11_0 | exact ⟨W, hW, by have q := wk_11_0; rw [if_neg (by omega)] at q; exact q⟩) | assumption | omega))
      ·
        have qr0 := fc_11_0.2.2.2.2.2 p11_0 (by omega) (by omega)
        refine v_knowA (x := 167) is_167 rd_66 (fun kP => ?_)
        have kq := kP (h11_0 177 p11_0) (by omega) (by omega)
        have k7 : h11_0 167 (h11_0 177 p11_0) = h 167 (h11_0 177 p11_0) := my_fr.at gh_11_0 is_167 rfl
        refine w_iconst gz_179_19 (by decide) ?_
        refine w_istore_n (ls' := [(2, 151), (0, x1), (0, p11_0), (0, 0)]) gz_179_20 gm_179 rfl rfl rfl ?_
        have ca : ∀ j : Int, h11_0 177 j = h11_0 177 j := fun _ => rfl
        have ce17 : h11_0 151 32 = v15 := ev15.symm
        exact J21_0 7 (0) (v15) h11_0 (gh_11_0) (by omega) (by omega) (by omega) (by omega) (by omega) (by omega) (ev15.symm.trans (by omega)) n_Mw_11_0 (by first | (rw [show h11_0 151 32 = h21_0 151 32 by omega]; exact Fc_cg ca (by omega) fc_21_0) | exact fc_21_0 | exact fc_11_0 | (rw [show h11_0 151 32 = h11_0 151 32 by omega]; exact Fc_cg ca (by omega) fc_11_0) | (rw [show h11_0 151 32 = h 151 32 by omega]; exact Fc_cg ca (by omega) fc0) | omega) (by first | assumption | omega | (subst_vars; omega) | omega) (by first | assumption | omega | (subst_vars; omega) | omega) (by first | (rw [ca, qs]; exact xw) | (rw [ca]; have q := wk_11_0; rw [if_pos (by omega)] at q; exact q) | (have q := wk_11_0; rw [if_pos (by omega)] at q; exact q) | omega) (by first | omega | (rw [ca]; omega) | omega) (by first | omega | exact b3_11_0 | exact b3_21_0 | assumption | omega) (by first | exact vk_11_0 (by omega) | (rw [ca]; exact vq) | assumption | omega) (by omega)
  refine w_aload_n gz_179_0 rfl ?_
  refine w_iload_n gz_179_1 rfl ?_
  refine w_inv (k := 2) (as := [(0, x1)]) (r := []) (x := 151) (ls0 := [(2, 151), (0, x1), (9, 0), (9, 0)]) gz_179_2 gm_180 rfl is_151 rd_10 rfl rfl rfl rfl rfl (c_Model_findChain (d := d) (x1 := x1) (by omega) (by omega) n_Mw (by first | assumption | exact no_such_saying | exact Fp_told (by omega) (by omega) | omega | (subst_vars; omega) | omega) (fun h18 frh18 xp19 xp20 xp21 => ?_))
  have gh18 : my_fr [(10, 27), (10, 32), (10, 33), (73, -1), (74, -1), (75, -1), (76, -1), (77, -1), (78, -1), (79, -1)] h h18 := my_fr.tr my_fr.rf (frh18.mo rfl)
  have Mw_h18 : Mw h18 := Mw_ag (my_ag.fr frh18 rfl) n_Mw
  show wp l rho (d + 1) 179 5 [(2, 151), (0, x1), (9, 0), (9, 0)] [] h18 Q
  have fc0 := xp19
  have fc1 := xp20
  have fc2 := xp21
  have b157 : h18 157 (h18 151 33) = h 157 (h18 151 33) := my_fr.at gh18 is_157 rfl
  have fb0 := Fc_bs hW a1 x5 tx9 xp19 (by omega)
  have e33c : h18 151 33 = mBs h x1 := fb0
  refine w_aload_n gz_179_5 rfl ?_
  refine w_inv (k := 1) (as := []) (r := []) (x := 151) (ls0 := [(2, 151), (9, 0)]) gz_179_6 gm_181 rfl is_151 rd_10 rfl rfl rfl rfl rfl (c_Model_beginsColumns5 (d := d)   (fun h22 frh22 w23 w24 xp25 xp26 xp27 => ?_))
  have gh22 : my_fr [(10, 27), (10, 32), (10, 33), (73, -1), (74, -1), (75, -1), (76, -1), (77, -1), (78, -1), (79, -1)] h h22 := my_fr.tr gh18 (frh22.mo rfl)
  have Mw_h22 : Mw h22 := Mw_ag (my_ag.fr frh22 rfl) Mw_h18
  show wp l rho (d + 1) 179 9 [(2, 151), (0, x1), (9, 0), (9, 0)] [] h22 Q
  have g33 : h22 151 33 = h18 151 33 := my_fr.at frh22 pis_151 rfl
  have cs0 : CoS h h22 x1 ([]) := CoS_0 xp27 e33c (by rw [e33c]; exact lm0.2.1) (by rw [e33c]; exact lm0.2.2.1) lm0.2.2.2.2 (by rw [← e33c]; omega)
  refine w_iconst gz_179_9 (by decide) ?_
  refine w_istore_n (ls' := [(2, 151), (0, x1), (0, 0), (9, 0)]) gz_179_10 gm_179 rfl rfl rfl ?_
  have ca : ∀ j : Int, h22 177 j = h18 177 j := fun j => ((my_fr.at frh22 is_177 rfl).trans (rfl : h18 177 j = h18 177 j))
  have ce28 : h22 151 32 = h18 151 32 := ((my_fr.at frh22 is_151 rfl).trans (rfl : h18 151 32 = h18 151 32))
  have ce29 : h22 151 33 = h18 151 33 := ((my_fr.at frh22 is_151 rfl).trans (rfl : h18 151 33 = h18 151 33))
  have ce30 : h22 151 27 = (h22 151 27) := (rfl : h22 151 27 = h22 151 27)
  exact J11_0 7 (0) h22 (gh22) (by omega) (by omega) Mw_h22 (by first | (rw [show h22 151 32 = h21_0 151 32 by omega]; exact Fc_cg ca (by omega) fc_21_0) | exact fc_21_0 | exact fc_11_0 | (rw [show h22 151 32 = h11_0 151 32 by omega]; exact Fc_cg ca (by omega) fc_11_0) | (rw [show h22 151 32 = h18 151 32 by omega]; exact Fc_cg ca (by omega) fc0) | omega) (by first | assumption | omega | (subst_vars; omega) | omega) (by first | assumption | omega | (subst_vars; omega) | omega) (by first | (rw [if_pos (by omega), ca, Fc_first (W := W) fc0 (by omega)]; omega) | (by_cases q : 0 < h22 151 32; (rw [if_pos q, ca, Fc_next hW fc_21_0 (by omega) (by omega), e57]; exact wp_21_0); (rw [if_neg q]; have q2 := Fc_last fc_21_0 (by omega); rw [show h22 151 32 - 1 = p11_0 by omega] at q2; rw [← q2, e57]; exact wp_21_0)) | omega) (by first | omega | exact b3_11_0 | exact b3_21_0 | assumption | omega) (by first | (intro _; rw [ca, Fc_bot fc0 (by omega)]; exact cs0) | (intro q; rw [Fc_un fc_21_0 (by omega) (by omega), (mCW_eq hW tq.1 tq.2.1 tq.2.2).1]; have z := vp_21_0; rw [show (0).toNat = (h 167 (h22 177 p11_0)).toNat by omega] at z; exact z) | assumption | omega) (by first | (intro z; exfalso; omega) | (intro q; have e2 : h22 177 p11_0 = x1 := (by have e := fc_21_0.2.2.2.1 (by omega); rw [show h22 151 32 - 1 = p11_0 by omega] at e; exact e); have z := vp_21_0; rw [show (0).toNat = (h 167 (h22 177 p11_0)).toNat by omega, ← (mCW_eq hW tq.1 tq.2.1 tq.2.2).1, e2] at z; exact z) | assumption | omega) (by omega)
end MYNModel_findColumns5_f0
