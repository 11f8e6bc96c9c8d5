/-! contracts, printed by wip/gen/gy.py -/
section MYNModel_shows5
theorem c_Model_shows5 {l : Launch} {rho : Nat → Int32} {d : Nat} {h : my_H} {Q : my_H → my_V → Prop} {x1 x2 : Int} (a1 : 0 ≤ x1) (b1 : x1 ≤ 15) (a2 : 0 ≤ x2) (b2 : x2 ≤ 5) (n_Mw : Mw h) (n_Mw3 : Mw3 h) (n_Rws : Rws h) (hfp : Fp h x2) (k0 : ∀ (h' : my_H), my_fr [(10, 27), (10, 32), (10, 33), (10, 37), (73, -1), (74, -1), (75, -1), (76, -1), (77, -1), (78, -1), (79, -1), (80, -1), (81, -1), (82, -1), (83, -1), (84, -1), (85, -1), (86, -1)] h h' → FwW h' (h' 151 27) → VmI h' (zqMS h x1) (mBs h x2) (h 157 (mBs h x2)) (mCW h x2) → VmS h' → h' 151 33 = mBs h x2 → Q h' (9, 0)) : wp l rho (d + 3) 194 0 [(2, 151), (0, x1), (0, x2), (9, 0), (9, 0), (9, 0), (9, 0), (9, 0)] [] h Q := by
  have nM3 := n_Mw3
  obtain ⟨W, hM3⟩ := nM3
  have hW := hM3.1
  have tx := hfp.1 (by omega)
  refine v_all is_171 rd_70 (fun k171 => ?_)
  have J16_0 : ∀ (n : Nat) (p16_0 : Int) (h16_0 : my_H), my_fr [(10, 27), (10, 32), (10, 33), (10, 37), (73, -1), (74, -1), (75, -1), (76, -1), (77, -1), (78, -1), (79, -1), (80, -1), (81, -1), (82, -1), (83, -1), (84, -1), (85, -1), (86, -1)] h h16_0 → 0 ≤ p16_0 → p16_0 ≤ 6 → Mw h16_0 → Mw3 h16_0 → Rws h16_0 → Fc h h16_0 (h16_0 151 32) (-1) x2 → 1 ≤ h16_0 151 32 → p16_0 ≤ h16_0 151 32 → (p16_0 < h16_0 151 32 → h16_0 151 27 = mst h W (h16_0 177 p16_0)) → Shn h16_0 0 (h16_0 151 37) (h16_0 151 27) (vb (h16_0 151 37)) → FwW h16_0 (h16_0 151 27) → (p16_0 < h16_0 151 32 → VmI h16_0 (zqMS h x1) (h16_0 151 33) (h 157 (h16_0 151 33)) (mUn h (h16_0 177 p16_0))) → (p16_0 = h16_0 151 32 → VmI h16_0 (zqMS h x1) (h16_0 151 33) (h 157 (h16_0 151 33)) (mCW h x2)) → 7 - p16_0 ≤ (n : Int) → wp l rho (d + 3) 194 16 [(2, 151), (0, x1), (0, x2), (0, p16_0), (9, 0), (9, 0), (9, 0), (9, 0)] [] h16_0 Q := by
    intro n
    induction n with
    | zero => intro p16_0 h16_0 gh_16_0 q0_16_0 q1_16_0 n_Mw_16_0 n_Mw3_16_0 n_Rws_16_0 fc_16_0 c1_16_0 lk_16_0 wk_16_0 sh_16_0 fw_16_0 vk_16_0 ve_16_0 hm_16_0; exfalso; omega
    | succ n ih_16_0 =>
      intro p16_0 h16_0 gh_16_0 q0_16_0 q1_16_0 n_Mw_16_0 n_Mw3_16_0 n_Rws_16_0 fc_16_0 c1_16_0 lk_16_0 wk_16_0 sh_16_0 fw_16_0 vk_16_0 ve_16_0 hm_16_0
      have J27_0 : ∀ (n : Nat) (p27_0 p27_1 : Int) (h27_0 : my_H), my_fr [(10, 27), (10, 32), (10, 33), (10, 37), (73, -1), (74, -1), (75, -1), (76, -1), (77, -1), (78, -1), (79, -1), (80, -1), (81, -1), (82, -1), (83, -1), (84, -1), (85, -1), (86, -1)] h h27_0 → p16_0 ≤ 5 → 0 ≤ p27_0 → p27_0 ≤ 6 → 1 ≤ p27_1 → p27_1 ≤ 6 → p16_0 ≤ (p27_1 - 1) → h27_0 151 32 = p27_1 → Mw h27_0 → Mw3 h27_0 → Rws h27_0 → Fc h h27_0 (h27_0 151 32) (-1) x2 → 1 ≤ h27_0 151 32 → p16_0 < h27_0 151 32 → h27_0 151 27 = mwf h (h27_0 177 p16_0) (mst h W (h27_0 177 p16_0)) p27_0.toNat → p27_0 ≤ h 167 (h27_0 177 p16_0) → Shn h27_0 0 (h27_0 151 37) (h27_0 151 27) (vb (h27_0 151 37)) → FwW h27_0 (h27_0 151 27) → VmI h27_0 (zqMS h x1) (h27_0 151 33) (h 157 (h27_0 151 33)) (mPs h (h27_0 177 p16_0) (p27_0).toNat ++ mUn h (h27_0 177 p16_0)) → 7 - p27_0 ≤ (n : Int) → wp l rho (d + 3) 194 27 [(2, 151), (0, x1), (0, x2), (0, p16_0), (0, p27_0), (9, 0), (9, 0), (9, 0)] [] h27_0 Q := by
        intro n
        induction n with
        | zero => intro p27_0 p27_1 h27_0 gh_27_0 q0_27_0 q1_27_0 q2_27_0 q3_27_0 q4_27_0 q5_27_0 c151_32_27_0 n_Mw_27_0 n_Mw3_27_0 n_Rws_27_0 fc_27_0 c1_27_0 lk_27_0 wp_27_0 lp_27_0 sh_27_0 fw_27_0 vp_27_0 hm_27_0; exfalso; omega
        | succ n ih_27_0 =>
          intro p27_0 p27_1 h27_0 gh_27_0 q0_27_0 q1_27_0 q2_27_0 q3_27_0 q4_27_0 q5_27_0 c151_32_27_0 n_Mw_27_0 n_Mw3_27_0 n_Rws_27_0 fc_27_0 c1_27_0 lk_27_0 wp_27_0 lp_27_0 sh_27_0 fw_27_0 vp_27_0 hm_27_0
          refine v_know (x := 151) (j := 37) (b := 37) rfl is_151 rd_10 rfl (fun k37 ek37 pk37 qk37 => ?_)
          have qr := fc_27_0.2.2.2.2.2 p16_0 (by omega) lk_27_0
          have f167 : ∀ j : Int, h27_0 167 j = h 167 j := fun j => my_fr.at gh_27_0 is_167 rfl
          have tq := Fc_told (by omega) tx (by omega) fc_27_0 (by omega : 0 ≤ p16_0) lk_27_0
          refine v_know (x := 151) (j := 27) (b := 27) rfl is_151 rd_10 rfl (fun k27 ek27 pk27 qk27 => ?_)
          have J63_0 : ∀ (n : Nat) (p63_0 p63_1 p63_2 : Int) (h63_0 : my_H), my_fr [(10, 27), (10, 32), (10, 33), (10, 37), (73, -1), (74, -1), (75, -1), (76, -1), (77, -1), (78, -1), (79, -1), (80, -1), (81, -1), (82, -1), (83, -1), (84, -1), (85, -1), (86, -1)] h h63_0 → p27_0 ≤ 5 → 0 ≤ p63_0 → p63_0 ≤ 41 → 0 ≤ p63_1 → p63_1 ≤ 10 → 0 ≤ p63_2 → p63_2 ≤ 10 → p63_1 ≤ p63_2 → p16_0 ≤ (p27_1 - 1) → h63_0 151 32 = p27_1 → Mw h63_0 → Mw3 h63_0 → Rws h63_0 → Fc h h63_0 (h63_0 151 32) (-1) x2 → 1 ≤ h63_0 151 32 → p16_0 < h63_0 151 32 → h63_0 151 27 = mwf h (h63_0 177 p16_0) (mst h W (h63_0 177 p16_0)) p27_0.toNat → p27_0 < h 167 (h63_0 177 p16_0) → p63_0 = 6 * (h63_0 177 p16_0) + p27_0 → Shn h63_0 0 p63_1 (wl h p63_0 (h63_0 151 27)) (vb (h63_0 151 37)) → Shn h63_0 p63_2 (h63_0 151 37) (h63_0 151 27) (vb (h63_0 151 37)) → p63_1 ≤ p63_2 → p63_2 ≤ h63_0 151 37 → FwW h63_0 (h63_0 151 27) → FmN h27_0 h63_0 (h27_0 151 27) (wl h p63_0 (h27_0 151 27)) (zqO2 (zqMS h x1) (h27_0 151 27) (mPk h p63_0)) p63_1 p63_2 → (h63_0 151 27 = h27_0 151 27 ∧ h63_0 151 37 = h27_0 151 37 ∧ h63_0 151 33 = h27_0 151 33 ∧ ∀ j : Int, h63_0 177 j = h27_0 177 j) → 11 - p63_2 ≤ (n : Int) → wp l rho (d + 3) 194 63 [(2, 151), (0, x1), (0, x2), (0, p16_0), (0, p27_0), (0, p63_0), (0, p63_1), (0, p63_2)] [] h63_0 Q := by
            intro n
            induction n with
            | zero => intro p63_0 p63_1 p63_2 h63_0 gh_63_0 q0_63_0 q1_63_0 q2_63_0 q3_63_0 q4_63_0 q5_63_0 q6_63_0 q7_63_0 q8_63_0 c151_32_63_0 n_Mw_63_0 n_Mw3_63_0 n_Rws_63_0 fc_63_0 c1_63_0 lk_63_0 wp_63_0 lp_63_0 ep_63_0 sl_63_0 su_63_0 ll_63_0 lm_63_0 fw_63_0 fn_63_0 w6_63_0 hm_63_0; exfalso; omega
            | succ n ih_63_0 =>
              intro p63_0 p63_1 p63_2 h63_0 gh_63_0 q0_63_0 q1_63_0 q2_63_0 q3_63_0 q4_63_0 q5_63_0 q6_63_0 q7_63_0 q8_63_0 c151_32_63_0 n_Mw_63_0 n_Mw3_63_0 n_Rws_63_0 fc_63_0 c1_63_0 lk_63_0 wp_63_0 lp_63_0 ep_63_0 sl_63_0 su_63_0 ll_63_0 lm_63_0 fw_63_0 fn_63_0 w6_63_0 hm_63_0
              have qr := Fc_told (by omega) tx (by omega) fc_63_0 (by omega : 0 ≤ p16_0) lk_63_0
              have pn := Pane_at hM3 (by omega) tx (by omega) fc_63_0 (by omega : 0 ≤ p16_0) lk_63_0 (s := p27_0) (by omega) lp_63_0 (fun j => my_fr.at gh_63_0 is_157 rfl) (fun j => my_fr.at gh_63_0 is_168 rfl) (fun j => my_fr.at gh_63_0 is_169 rfl) (fun j => my_fr.at gh_63_0 is_170 rfl) (fun j => my_fr.at gh_63_0 is_171 rfl) (fun j => my_fr.at gh_63_0 is_172 rfl) wp_63_0 ep_63_0
              refine v_know (x := 151) (j := 27) (b := 27) rfl is_151 rd_10 rfl (fun k27 ek27 pk27 qk27 => ?_)
              refine v_know (x := 151) (j := 37) (b := 37) rfl is_151 rd_10 rfl (fun k37 ek37 pk37 qk37 => ?_)
              have w8 : wl h p63_0 (h63_0 151 27) ≤ 8 := wl_8 (by omega) pn.2.2.2.2.1 (k171 p63_0 (by omega) (by omega)).2
              have V19 := (vb_bd (m := h63_0 151 37) (by omega) (by omega)).1
              have eM : zqMS h63_0 x1 = zqMS h x1 := MS_eq (fun j => my_fr.at gh_63_0 is_162 rfl) (fun j => my_fr.at gh_63_0 is_163 rfl)
              have eP := mPk_eq (p := p63_0) (fun j => my_fr.at gh_63_0 is_157 rfl) (fun j => my_fr.at gh_63_0 is_168 rfl) (fun j => my_fr.at gh_63_0 is_169 rfl) (fun j => my_fr.at gh_63_0 is_170 rfl) (fun j => my_fr.at gh_63_0 is_171 rfl) (fun j => my_fr.at gh_63_0 is_172 rfl)
              refine w_iload gz_194_63 rfl ?_
              refine w_aload_n gz_194_65 rfl ?_
              refine v_getI (j := 37) gz_194_66 rfl is_151 rd_10 rfl (fun v1 ev1 pv1 qv1 => ?_)
              refine w_icge (t := 101) gz_194_69 rfl (fun u2 => ?_) (fun u2 => ?_)
              ·
                refine w_aload_n gz_194_101 rfl ?_
                refine w_iload gz_194_102 rfl ?_
                refine v_putI (j := 37) gz_194_104 rfl is_151 rd_10 rfl (by omega) (by omega) rfl (fun h3 fh3 => ?_)
                have gh3 : my_fr [(10, 27), (10, 32), (10, 33), (10, 37), (73, -1), (74, -1), (75, -1), (76, -1), (77, -1), (78, -1), (79, -1), (80, -1), (81, -1), (82, -1), (83, -1), (84, -1), (85, -1), (86, -1)] h h3 := my_fr.up gh_63_0 is_151 fh3 rfl
                have Mw_h3 : Mw h3 := Mw_ag (my_ag.up fh3 is_151 rfl) n_Mw_63_0
                have Mw3_h3 : Mw3 h3 := Mw3_ag (my_ag.up fh3 is_151 rfl) n_Mw3_63_0
                have Rws_h3 : Rws h3 := Rws_ag (my_ag.up fh3 is_151 rfl) n_Rws_63_0
                refine w_aload_n gz_194_107 rfl ?_
                refine w_getX (v := 168) gz_194_108 is_151 rd_10 rfl (by decide) rfl ?_
                refine w_iload gz_194_111 rfl ?_
                refine w_iald gz_194_113 is_168 rd_67 (by omega) (by omega) (fun v5 ev5 pv5 qv5 => ?_)
                refine w_iconst gz_194_114 (by decide) ?_
                refine w_icne (t := 124) gz_194_115 rfl (fun u6 => ?_) (fun u6 => ?_)
                ·
                  refine w_aload_n gz_194_124 rfl ?_
                  refine w_iload gz_194_125 rfl ?_
                  refine v_know (x := 151) (j := 37) (b := 37) rfl is_151 rd_10 rfl (fun k37b ek37b pk37b qk37b => ?_)
                  have cb : ∀ j : Int, h3 177 j = h63_0 177 j := fun j => ((my_up_role fh3 is_177 is_151 rfl).trans (rfl : h63_0 177 j = h63_0 177 j))
                  have ce7 : h3 151 27 = h63_0 151 27 := ((my_up_fld fh3 (by decide)).trans (rfl : h63_0 151 27 = h63_0 151 27))
                  have ce8 : h3 151 32 = p27_1 := ((my_up_fld fh3 (by decide)).trans c151_32_63_0)
                  have ce9 : h3 151 33 = h63_0 151 33 := ((my_up_fld fh3 (by decide)).trans (rfl : h63_0 151 33 = h63_0 151 33))
                  have ce10 : h3 151 37 = p63_1 := (my_up_self fh3)
                  have e174 : ∀ j : Int, h3 174 j = h63_0 174 j := fun j => ((my_up_role fh3 is_174 is_151 rfl).trans (rfl : h63_0 174 j = h63_0 174 j))
                  have e175 : ∀ j : Int, h3 175 j = h63_0 175 j := fun j => ((my_up_role fh3 is_175 is_151 rfl).trans (rfl : h63_0 175 j = h63_0 175 j))
                  have fwx : FwW h3 (h3 151 27) := FwW_w (FwW_eq e174 e175 fw_63_0) (by omega)
                  have e168 : h3 168 p63_0 = h 168 p63_0 := my_fr.at gh3 is_168 rfl
                  have fcx : Fc h h3 (h63_0 151 32) (-1) x2 := Fc_cg cb (by omega) fc_63_0
                  have pn2 := Pane_at hM3 (by omega) tx (by omega) fcx (by omega : 0 ≤ p16_0) lk_63_0 (s := p27_0) (wd := h3 151 27) (q := p63_0) (by omega) (by rw [cb]; exact lp_63_0) (fun j => my_fr.at gh3 is_157 rfl) (fun j => my_fr.at gh3 is_168 rfl) (fun j => my_fr.at gh3 is_169 rfl) (fun j => my_fr.at gh3 is_170 rfl) (fun j => my_fr.at gh3 is_171 rfl) (fun j => my_fr.at gh3 is_172 rfl) (by rw [cb]; omega) (by rw [cb]; exact ep_63_0)
                  have eP3 := mPk_eq (p := p63_0) (fun j => my_fr.at gh3 is_157 rfl) (fun j => my_fr.at gh3 is_168 rfl) (fun j => my_fr.at gh3 is_169 rfl) (fun j => my_fr.at gh3 is_170 rfl) (fun j => my_fr.at gh3 is_171 rfl) (fun j => my_fr.at gh3 is_172 rfl)
                  have e181 : ∀ j : Int, h3 181 j = h63_0 181 j := fun j => ((my_up_role fh3 is_181 is_151 rfl).trans (rfl : h63_0 181 j = h63_0 181 j))
                  have e182 : ∀ j : Int, h3 182 j = h63_0 182 j := fun j => ((my_up_role fh3 is_182 is_151 rfl).trans (rfl : h63_0 182 j = h63_0 182 j))
                  refine w_inv (k := 1) (as := [(0, p63_0)]) (r := []) (x := 151) (ls0 := [(2, 151), (0, p63_0), (9, 0)]) gz_194_127 gm_182 rfl is_151 rd_10 rfl rfl rfl rfl rfl (c_Model_pane2 (d := (d + 2)) (x1 := p63_0) (by omega) (by omega) (pn2.2.1) (fun h11 frh11 xp12 xp13 => ?_))
                  have gh11 : my_fr [(10, 27), (10, 32), (10, 33), (10, 37), (73, -1), (74, -1), (75, -1), (76, -1), (77, -1), (78, -1), (79, -1), (80, -1), (81, -1), (82, -1), (83, -1), (84, -1), (85, -1), (86, -1)] h h11 := my_fr.tr gh3 (frh11.mo rfl)
                  have Mw_h11 : Mw h11 := Mw_ag (my_ag.fr frh11 rfl) Mw_h3
                  have Mw3_h11 : Mw3 h11 := Mw3_ag (my_ag.fr frh11 rfl) Mw3_h3
                  have Rws_h11 : Rws h11 := Rws_ag (my_ag.fr frh11 rfl) Rws_h3
                  show wp l rho (d + 3) 194 130 [(2, 151), (0, x1), (0, x2), (0, p16_0), (0, p27_0), (0, p63_0), (0, p63_1), (0, p63_2)] [] h11 Q
                  have xw := xp12
                  have xf := xp13 ⟨fwx, pn2.1⟩
                  obtain ⟨wdx, ewdx⟩ : ∃ wdx : Int, wdx = h3 151 27 := ⟨_, rfl⟩
                  rw [← ewdx] at xw
                  have p37 : h11 151 37 = h3 151 37 := my_fr.at frh11 is_151 rfl
                  have vq : VmI h11 (zqMS h x1) (h27_0 151 33) (h 157 (h27_0 151 33)) (mPk h p63_0 :: (mPs h (h27_0 177 p16_0) (p27_0).toNat ++ mUn h (h27_0 177 p16_0))) := by
                    first
                    | exact VmI_fn (p := mPk h p63_0) vp_27_0 fn_63_0 (by omega) (by rw [mPk_1]; omega) (wl_M (by omega)) (by rw [← w6_63_0.1]; exact w8) (by rw [xw, eP3.2.2, show wdx = h27_0 151 27 by omega, wl_M (by omega), mPk_M]) (by omega) (fun j => (my_fr.at frh11 is_181 rfl).trans (e181 j)) (fun j => (my_fr.at frh11 is_182 rfl).trans (e182 j))
                    | exact VmI_s5 (p := mPk h p63_0) vp_27_0 (by omega) (by have z := fn_63_0; rw [wl_5 isum] at z; exact z) (by omega) (by rw [mPk_1]; exact isum) (by rw [mPk_5 isum]; exact x170.symm) (by rw [mPk_5 isum]; exact x169.symm) (by omega) (by omega) c5t d182 xl (by omega) (by omega) (by rw [xw, eP3.2.2]; unfold ms; rw [if_pos isum]) p37 (fun j => my_fr.at frh11 is_181 rfl) (fun j => my_fr.at frh11 is_182 rfl)
                  have e5 : p63_0 = 6 * (h27_0 177 p16_0) + (((p27_0).toNat : Nat) : Int) := by
                    have z := w6_63_0.2.2.2 p16_0
                    omega
                  rw [e5] at vq
                  refine w_iinc (ls' := [(2, 151), (0, x1), (0, x2), (0, p16_0), (0, (p27_0 + 1)), (0, p63_0), (0, p63_1), (0, p63_2)]) gz_194_130 rfl gm_194 rfl rfl rfl ⟨by omega, by omega⟩ ?_
                  refine w_goto (t := 27) gz_194_133 rfl ?_
                  have ca : ∀ j : Int, h11 177 j = h63_0 177 j := fun j => ((my_fr.at frh11 is_177 rfl).trans ((my_up_role fh3 is_177 is_151 rfl).trans (rfl : h63_0 177 j = h63_0 177 j)))
                  have ce14 : h11 151 32 = p27_1 := ((my_fr.at frh11 is_151 rfl).trans ((my_up_fld fh3 (by decide)).trans c151_32_63_0))
                  have ce15 : h11 151 33 = h63_0 151 33 := ((my_fr.at frh11 is_151 rfl).trans ((my_up_fld fh3 (by decide)).trans (rfl : h63_0 151 33 = h63_0 151 33)))
                  have ce16 : h11 151 37 = p63_1 := ((my_fr.at frh11 is_151 rfl).trans (my_up_self fh3))
                  have a182 : ∀ j : Int, h11 182 j = h63_0 182 j := fun j => ((my_fr.at frh11 is_182 rfl).trans ((my_up_role fh3 is_182 is_151 rfl).trans (rfl : h63_0 182 j = h63_0 182 j)))
                  have a174 : ∀ j : Int, h11 174 j = h11 174 j := fun j => rfl
                  have a175 : ∀ j : Int, h11 175 j = h11 175 j := fun j => rfl
                  have a181 : ∀ j : Int, h11 181 j = h63_0 181 j := fun j => ((my_fr.at frh11 is_181 rfl).trans ((my_up_role fh3 is_181 is_151 rfl).trans (rfl : h63_0 181 j = h63_0 181 j)))
                  refine w_weak (ls' := [(2, 151), (0, x1), (0, x2), (0, p16_0), (0, (p27_0 + 1)), (9, 0), (9, 0), (9, 0)]) (wk_e (wk_e (wk_e (wk_e (wk_e (wk_9 (wk_9 (wk_9 wk_n)))))))) ?_
                  exact ih_27_0 ((p27_0 + 1)) (p27_1) h11 (gh11) (by omega) (by omega) (by omega) (by omega) (by omega) (by omega) (((my_fr.at frh11 is_151 rfl).trans ((my_up_fld fh3 (by decide)).trans c151_32_63_0)).trans (by omega)) Mw_h11 Mw3_h11 Rws_h11 (by first | (rw [show h11 151 32 = h63_0 151 32 by omega]; exact Fc_cg ca (by omega) fc_63_0) | (rw [show h11 151 32 = h27_0 151 32 by omega]; exact Fc_cg ca (by omega) fc_27_0) | (rw [show h11 151 32 = h16_0 151 32 by omega]; exact Fc_cg ca (by omega) fc_16_0) | (rw [show h11 151 32 = h 151 32 by omega]; exact Fc_cg ca (by omega) fc0) | omega) (by omega) (by omega) (by first | exact wp_27_0 | exact wk_16_0 (by omega) | (rw [ca]; exact wk_16_0 (by omega)) | (rw [ca]; omega) | (rw [ca]; have z := pn2.2.2.1; rw [cb, ← ewdx] at z; omega) | omega) (by first | omega | (rw [ca]; omega) | omega) (by first | exact Shn_V xb (by omega) (by omega) (by omega) (by have z := (vb_bd (m := h11 151 37) (by omega) (by omega)).1; omega) | exact sh_16_0 | exact sh_27_0 | exact Shn_V (Shn_eq a182 xs) (by omega) (by omega) (by have z := pn2.2.2.2.2.2.2 (by omega); rw [← ewdx] at z; omega) (by rw [show h11 151 37 = xsm by omega]; exact Int.le_refl _) | exact Shn_V (Shn_eq a182 sl_63_0) (by omega) (by omega) (by have z := pn2.2.2.2.2.2.1 (by omega); rw [← ewdx, show wdx = h63_0 151 27 by omega] at z; rw [show wdx = h63_0 151 27 by omega] at xw; omega) (vb_mono (m := h63_0 151 37) (n := h11 151 37) (by omega) (by omega) (by omega)).1 | omega) (by first | exact FwW_w (FwW_eq a174 a175 x6f) (by omega) | exact xf | exact FwW_w (FwW_eq a174 a175 fw_63_0) (by omega) | exact FwW_w (FwW_eq a174 a175 fw_27_0) (by omega) | exact FwW_w (FwW_eq a174 a175 fw_16_0) (by omega) | omega) (by first | exact vk_16_0 (by omega) | (rw [show h11 151 33 = h27_0 151 33 by omega, ca, w6_63_0.2.2.2, show ((p27_0 + 1)).toNat = (p27_0).toNat + 1 by omega]; exact vq) | assumption | omega) (by omega)
                ·
                  refine w_aload_n gz_194_118 rfl ?_
                  refine w_iload gz_194_119 rfl ?_
                  refine v_know (x := 151) (j := 37) (b := 37) rfl is_151 rd_10 rfl (fun k37c ek37c pk37c qk37c => ?_)
                  have d182 : ∀ j : Int, h3 182 j = h63_0 182 j := fun j => ((my_up_role fh3 is_182 is_151 rfl).trans (rfl : h63_0 182 j = h63_0 182 j))
                  have k5 : h3 168 p63_0 = 5 := by omega
                  have h5 : h 168 p63_0 = 5 := by have z : h3 168 p63_0 = h 168 p63_0 := my_fr.at gh3 is_168 rfl; omega
                  have cc5 : ∀ j : Int, h3 177 j = h63_0 177 j := fun j => ((my_up_role fh3 is_177 is_151 rfl).trans (rfl : h63_0 177 j = h63_0 177 j))
                  have ce17 : h3 151 27 = h63_0 151 27 := ((my_up_fld fh3 (by decide)).trans (rfl : h63_0 151 27 = h63_0 151 27))
                  have ce18 : h3 151 32 = p27_1 := ((my_up_fld fh3 (by decide)).trans c151_32_63_0)
                  have ce19 : h3 151 33 = h63_0 151 33 := ((my_up_fld fh3 (by decide)).trans (rfl : h63_0 151 33 = h63_0 151 33))
                  have ce20 : h3 151 37 = p63_1 := (my_up_self fh3)
                  have fc5 : Fc h h3 (h63_0 151 32) (-1) x2 := Fc_cg cc5 (by omega) fc_63_0
                  have pn5 := Pane_at hM3 (by omega) tx (by omega) fc5 (by omega : 0 ≤ p16_0) lk_63_0 (s := p27_0) (wd := h3 151 27) (q := p63_0) (by omega) (by rw [cc5]; exact lp_63_0) (fun j => my_fr.at gh3 is_157 rfl) (fun j => my_fr.at gh3 is_168 rfl) (fun j => my_fr.at gh3 is_169 rfl) (fun j => my_fr.at gh3 is_170 rfl) (fun j => my_fr.at gh3 is_171 rfl) (fun j => my_fr.at gh3 is_172 rfl) (by rw [cc5]; omega) (by rw [cc5]; exact ep_63_0)
                  have sh5 : Shn h3 0 (h3 151 37) (h3 151 27) (vb (h3 151 37)) := Shn_V (Shn_eq d182 sl_63_0) (by omega) (by omega) (by rw [wl_5 h5]; omega) (vb_mono (m := h63_0 151 37) (n := h3 151 37) (by omega) (by omega) (by omega)).1
                  have c5t : ∀ j : Int, h3 181 j = h63_0 181 j := fun j => ((my_up_role fh3 is_181 is_151 rfl).trans (rfl : h63_0 181 j = h63_0 181 j))
                  have x170 : h3 170 p63_0 = h 170 p63_0 := my_fr.at gh3 is_170 rfl
                  have x169 : h3 169 p63_0 = h 169 p63_0 := my_fr.at gh3 is_169 rfl
                  refine w_inv (k := 4) (as := [(0, p63_0)]) (r := []) (x := 151) (ls0 := [(2, 151), (0, p63_0), (9, 0), (9, 0), (9, 0), (9, 0)]) gz_194_121 gm_198 rfl is_151 rd_10 rfl rfl rfl rfl rfl (c_Model_sums5 (d := (d + 2)) (x1 := p63_0) (by omega) (by omega) (k5) (pn5.1) (sh5) (fun h21 frh21 xp22 xp23 xp24 => ?_))
                  have gh21 : my_fr [(10, 27), (10, 32), (10, 33), (10, 37), (73, -1), (74, -1), (75, -1), (76, -1), (77, -1), (78, -1), (79, -1), (80, -1), (81, -1), (82, -1), (83, -1), (84, -1), (85, -1), (86, -1)] h h21 := my_fr.tr gh3 (frh21.mo rfl)
                  have Mw_h21 : Mw h21 := Mw_ag (my_ag.fr frh21 rfl) Mw_h3
                  have Mw3_h21 : Mw3 h21 := Mw3_ag (my_ag.fr frh21 rfl) Mw3_h3
                  have Rws_h21 : Rws h21 := Rws_ag (my_ag.fr frh21 rfl) Rws_h3
                  show wp l rho (d + 3) 194 124 [(2, 151), (0, x1), (0, x2), (0, p16_0), (0, p27_0), (0, p63_0), (0, p63_1), (0, p63_2)] [] h21 Q
                  have xm := xp22
                  have xs := xp23
                  obtain ⟨xsm, exsm⟩ : ∃ xsm : Int, xsm = h21 151 37 := ⟨_, rfl⟩
                  rw [← exsm] at xs xm
                  have isum : h 168 p63_0 = 5 := h5
                  have xl := xp24
                  refine w_aload_n gz_194_124 rfl ?_
                  refine w_iload gz_194_125 rfl ?_
                  refine v_know (x := 151) (j := 37) (b := 37) rfl is_151 rd_10 rfl (fun k37b ek37b pk37b qk37b => ?_)
                  have cb : ∀ j : Int, h21 177 j = h63_0 177 j := fun j => ((my_fr.at frh21 is_177 rfl).trans ((my_up_role fh3 is_177 is_151 rfl).trans (rfl : h63_0 177 j = h63_0 177 j)))
                  have ce25 : h21 151 27 = h63_0 151 27 := ((my_fr.at frh21 is_151 rfl).trans ((my_up_fld fh3 (by decide)).trans (rfl : h63_0 151 27 = h63_0 151 27)))
                  have ce26 : h21 151 32 = p27_1 := ((my_fr.at frh21 is_151 rfl).trans ((my_up_fld fh3 (by decide)).trans c151_32_63_0))
                  have ce27 : h21 151 33 = h63_0 151 33 := ((my_fr.at frh21 is_151 rfl).trans ((my_up_fld fh3 (by decide)).trans (rfl : h63_0 151 33 = h63_0 151 33)))
                  have e174 : ∀ j : Int, h21 174 j = h63_0 174 j := fun j => ((my_fr.at frh21 is_174 rfl).trans ((my_up_role fh3 is_174 is_151 rfl).trans (rfl : h63_0 174 j = h63_0 174 j)))
                  have e175 : ∀ j : Int, h21 175 j = h63_0 175 j := fun j => ((my_fr.at frh21 is_175 rfl).trans ((my_up_role fh3 is_175 is_151 rfl).trans (rfl : h63_0 175 j = h63_0 175 j)))
                  have fwx : FwW h21 (h21 151 27) := FwW_w (FwW_eq e174 e175 fw_63_0) (by omega)
                  have e168 : h21 168 p63_0 = h 168 p63_0 := my_fr.at gh21 is_168 rfl
                  have fcx : Fc h h21 (h63_0 151 32) (-1) x2 := Fc_cg cb (by omega) fc_63_0
                  have pn2 := Pane_at hM3 (by omega) tx (by omega) fcx (by omega : 0 ≤ p16_0) lk_63_0 (s := p27_0) (wd := h21 151 27) (q := p63_0) (by omega) (by rw [cb]; exact lp_63_0) (fun j => my_fr.at gh21 is_157 rfl) (fun j => my_fr.at gh21 is_168 rfl) (fun j => my_fr.at gh21 is_169 rfl) (fun j => my_fr.at gh21 is_170 rfl) (fun j => my_fr.at gh21 is_171 rfl) (fun j => my_fr.at gh21 is_172 rfl) (by rw [cb]; omega) (by rw [cb]; exact ep_63_0)
                  have eP3 := mPk_eq (p := p63_0) (fun j => my_fr.at gh21 is_157 rfl) (fun j => my_fr.at gh21 is_168 rfl) (fun j => my_fr.at gh21 is_169 rfl) (fun j => my_fr.at gh21 is_170 rfl) (fun j => my_fr.at gh21 is_171 rfl) (fun j => my_fr.at gh21 is_172 rfl)
                  have e181 : ∀ j : Int, h21 181 j = h21 181 j := fun j => rfl
                  have e182 : ∀ j : Int, h21 182 j = h21 182 j := fun j => rfl
                  refine w_inv (k := 1) (as := [(0, p63_0)]) (r := []) (x := 151) (ls0 := [(2, 151), (0, p63_0), (9, 0)]) gz_194_127 gm_182 rfl is_151 rd_10 rfl rfl rfl rfl rfl (c_Model_pane2 (d := (d + 2)) (x1 := p63_0) (by omega) (by omega) (pn2.2.1) (fun h28 frh28 xp29 xp30 => ?_))
                  have gh28 : my_fr [(10, 27), (10, 32), (10, 33), (10, 37), (73, -1), (74, -1), (75, -1), (76, -1), (77, -1), (78, -1), (79, -1), (80, -1), (81, -1), (82, -1), (83, -1), (84, -1), (85, -1), (86, -1)] h h28 := my_fr.tr gh21 (frh28.mo rfl)
                  have Mw_h28 : Mw h28 := Mw_ag (my_ag.fr frh28 rfl) Mw_h21
                  have Mw3_h28 : Mw3 h28 := Mw3_ag (my_ag.fr frh28 rfl) Mw3_h21
                  have Rws_h28 : Rws h28 := Rws_ag (my_ag.fr frh28 rfl) Rws_h21
                  show wp l rho (d + 3) 194 130 [(2, 151), (0, x1), (0, x2), (0, p16_0), (0, p27_0), (0, p63_0), (0, p63_1), (0, p63_2)] [] h28 Q
                  have xw := xp29
                  have xf := xp30 ⟨fwx, pn2.1⟩
                  obtain ⟨wdx, ewdx⟩ : ∃ wdx : Int, wdx = h21 151 27 := ⟨_, rfl⟩
                  rw [← ewdx] at xw
                  have p37 : h28 151 37 = h21 151 37 := my_fr.at frh28 is_151 rfl
                  have vq : VmI h28 (zqMS h x1) (h27_0 151 33) (h 157 (h27_0 151 33)) (mPk h p63_0 :: (mPs h (h27_0 177 p16_0) (p27_0).toNat ++ mUn h (h27_0 177 p16_0))) := by
                    first
                    | exact VmI_fn (p := mPk h p63_0) vp_27_0 fn_63_0 (by omega) (by rw [mPk_1]; omega) (wl_M (by omega)) (by rw [← w6_63_0.1]; exact w8) (by rw [xw, eP3.2.2, show wdx = h27_0 151 27 by omega, wl_M (by omega), mPk_M]) (by omega) (fun j => (my_fr.at frh28 is_181 rfl).trans (e181 j)) (fun j => (my_fr.at frh28 is_182 rfl).trans (e182 j))
                    | exact VmI_s5 (p := mPk h p63_0) vp_27_0 (by omega) (by have z := fn_63_0; rw [wl_5 isum] at z; exact z) (by omega) (by rw [mPk_1]; exact isum) (by rw [mPk_5 isum]; exact x170.symm) (by rw [mPk_5 isum]; exact x169.symm) (by omega) (by omega) c5t d182 xl (by omega) (by omega) (by rw [xw, eP3.2.2]; unfold ms; rw [if_pos isum]) p37 (fun j => my_fr.at frh28 is_181 rfl) (fun j => my_fr.at frh28 is_182 rfl)
                  have e5 : p63_0 = 6 * (h27_0 177 p16_0) + (((p27_0).toNat : Nat) : Int) := by
                    have z := w6_63_0.2.2.2 p16_0
                    omega
                  rw [e5] at vq
                  refine w_iinc (ls' := [(2, 151), (0, x1), (0, x2), (0, p16_0), (0, (p27_0 + 1)), (0, p63_0), (0, p63_1), (0, p63_2)]) gz_194_130 rfl gm_194 rfl rfl rfl ⟨by omega, by omega⟩ ?_
                  refine w_goto (t := 27) gz_194_133 rfl ?_
                  have ca : ∀ j : Int, h28 177 j = h63_0 177 j := fun j => ((my_fr.at frh28 is_177 rfl).trans ((my_fr.at frh21 is_177 rfl).trans ((my_up_role fh3 is_177 is_151 rfl).trans (rfl : h63_0 177 j = h63_0 177 j))))
                  have ce31 : h28 151 32 = p27_1 := ((my_fr.at frh28 is_151 rfl).trans ((my_fr.at frh21 is_151 rfl).trans ((my_up_fld fh3 (by decide)).trans c151_32_63_0)))
                  have ce32 : h28 151 33 = h63_0 151 33 := ((my_fr.at frh28 is_151 rfl).trans ((my_fr.at frh21 is_151 rfl).trans ((my_up_fld fh3 (by decide)).trans (rfl : h63_0 151 33 = h63_0 151 33))))
                  have ce33 : h28 151 37 = h21 151 37 := ((my_fr.at frh28 is_151 rfl).trans (rfl : h21 151 37 = h21 151 37))
                  have a182 : ∀ j : Int, h28 182 j = h21 182 j := fun j => ((my_fr.at frh28 is_182 rfl).trans (rfl : h21 182 j = h21 182 j))
                  have a174 : ∀ j : Int, h28 174 j = h28 174 j := fun j => rfl
                  have a175 : ∀ j : Int, h28 175 j = h28 175 j := fun j => rfl
                  have a181 : ∀ j : Int, h28 181 j = h21 181 j := fun j => ((my_fr.at frh28 is_181 rfl).trans (rfl : h21 181 j = h21 181 j))
                  refine w_weak (ls' := [(2, 151), (0, x1), (0, x2), (0, p16_0), (0, (p27_0 + 1)), (9, 0), (9, 0), (9, 0)]) (wk_e (wk_e (wk_e (wk_e (wk_e (wk_9 (wk_9 (wk_9 wk_n)))))))) ?_
                  exact ih_27_0 ((p27_0 + 1)) (p27_1) h28 (gh28) (by omega) (by omega) (by omega) (by omega) (by omega) (by omega) (((my_fr.at frh28 is_151 rfl).trans ((my_fr.at frh21 is_151 rfl).trans ((my_up_fld fh3 (by decide)).trans c151_32_63_0))).trans (by omega)) Mw_h28 Mw3_h28 Rws_h28 (by first | (rw [show h28 151 32 = h63_0 151 32 by omega]; exact Fc_cg ca (by omega) fc_63_0) | (rw [show h28 151 32 = h27_0 151 32 by omega]; exact Fc_cg ca (by omega) fc_27_0) | (rw [show h28 151 32 = h16_0 151 32 by omega]; exact Fc_cg ca (by omega) fc_16_0) | (rw [show h28 151 32 = h 151 32 by omega]; exact Fc_cg ca (by omega) fc0) | omega) (by omega) (by omega) (by first | exact wp_27_0 | exact wk_16_0 (by omega) | (rw [ca]; exact wk_16_0 (by omega)) | (rw [ca]; omega) | (rw [ca]; have z := pn2.2.2.1; rw [cb, ← ewdx] at z; omega) | omega) (by first | omega | (rw [ca]; omega) | omega) (by first | exact Shn_V xb (by omega) (by omega) (by omega) (by have z := (vb_bd (m := h28 151 37) (by omega) (by omega)).1; omega) | exact sh_16_0 | exact sh_27_0 | exact Shn_V (Shn_eq a182 xs) (by omega) (by omega) (by have z := pn2.2.2.2.2.2.2 (by omega); rw [← ewdx] at z; omega) (by rw [show h28 151 37 = xsm by omega]; exact Int.le_refl _) | exact Shn_V (Shn_eq a182 sl_63_0) (by omega) (by omega) (by have z := pn2.2.2.2.2.2.1 (by omega); rw [← ewdx, show wdx = h63_0 151 27 by omega] at z; rw [show wdx = h63_0 151 27 by omega] at xw; omega) (vb_mono (m := h63_0 151 37) (n := h28 151 37) (by omega) (by omega) (by omega)).1 | omega) (by first | exact FwW_w (FwW_eq a174 a175 x6f) (by omega) | exact xf | exact FwW_w (FwW_eq a174 a175 fw_63_0) (by omega) | exact FwW_w (FwW_eq a174 a175 fw_27_0) (by omega) | exact FwW_w (FwW_eq a174 a175 fw_16_0) (by omega) | omega) (by first | exact vk_16_0 (by omega) | (rw [show h28 151 33 = h27_0 151 33 by omega, ca, w6_63_0.2.2.2, show ((p27_0 + 1)).toNat = (p27_0).toNat + 1 by omega]; exact vq) | assumption | omega) (by omega)
              ·
                refine w_aload_n gz_194_72 rfl ?_
                refine w_iload_n gz_194_73 rfl ?_
                refine w_iload gz_194_74 rfl ?_
                refine w_iload gz_194_76 rfl ?_
                refine w_inv (k := 2) (as := [(0, p63_2), (0, p63_0), (0, x1)]) (r := []) (x := 151) (ls0 := [(2, 151), (0, x1), (0, p63_0), (0, p63_2), (9, 0), (9, 0)]) gz_194_78 gm_196 rfl is_151 rd_10 rfl rfl rfl rfl rfl (c_Model_isLeft5 (d := d) (x1 := x1) (x2 := p63_0) (x3 := p63_2) (by omega) (by omega) (by omega) (by omega) (by omega) (by omega) (pn.1) (pn.2.1) (fun h34 frh34 xp35 xp36 => ?_) (fun h37 frh37 xp38 xp39 xp40 => ?_))
                ·
                  have gh34 : my_fr [(10, 27), (10, 32), (10, 33), (10, 37), (73, -1), (74, -1), (75, -1), (76, -1), (77, -1), (78, -1), (79, -1), (80, -1), (81, -1), (82, -1), (83, -1), (84, -1), (85, -1), (86, -1)] h h34 := my_fr.tr gh_63_0 (frh34.mo rfl)
                  have Mw_h34 : Mw h34 := Mw_ag (my_ag.fr frh34 rfl) n_Mw_63_0
                  have Mw3_h34 : Mw3 h34 := Mw3_ag (my_ag.fr frh34 rfl) n_Mw3_63_0
                  have Rws_h34 : Rws h34 := Rws_ag (my_ag.fr frh34 rfl) n_Rws_63_0
                  show wp l rho (d + 3) 194 81 [(2, 151), (0, x1), (0, x2), (0, p16_0), (0, p27_0), (0, p63_0), (0, p63_1), (0, p63_2)] [(0, 0)] h34 Q
                  have rn := xp35
                  have ro := xp36
                  have on : OneN h63_0 h34 p63_2 := ⟨fun j => my_fr.at frh34 is_181 rfl, by first | exact ro | exact rn⟩
                  refine w_ifeq (t := 95) gz_194_81 rfl (fun u41 => ?_) (fun u41 => by exfalso; omega)
                  refine w_iinc (ls' := [(2, 151), (0, x1), (0, x2), (0, p16_0), (0, p27_0), (0, p63_0), (0, p63_1), (0, (p63_2 + 1))]) gz_194_95 rfl gm_194 rfl rfl rfl ⟨by omega, by omega⟩ ?_
                  refine w_goto (t := 63) gz_194_98 rfl ?_
                  have ca : ∀ j : Int, h34 177 j = h63_0 177 j := fun j => ((my_fr.at frh34 is_177 rfl).trans (rfl : h63_0 177 j = h63_0 177 j))
                  have ce42 : h34 151 27 = h63_0 151 27 := ((my_fr.at frh34 is_151 rfl).trans (rfl : h63_0 151 27 = h63_0 151 27))
                  have ce43 : h34 151 32 = p27_1 := ((my_fr.at frh34 is_151 rfl).trans c151_32_63_0)
                  have ce44 : h34 151 33 = h63_0 151 33 := ((my_fr.at frh34 is_151 rfl).trans (rfl : h63_0 151 33 = h63_0 151 33))
                  have ce45 : h34 151 37 = v1 := ((my_fr.at frh34 is_151 rfl).trans ev1.symm)
                  have a182 : ∀ j : Int, h34 182 j = h34 182 j := fun j => rfl
                  have a174 : ∀ j : Int, h34 174 j = h63_0 174 j := fun j => ((my_fr.at frh34 is_174 rfl).trans (rfl : h63_0 174 j = h63_0 174 j))
                  have a175 : ∀ j : Int, h34 175 j = h63_0 175 j := fun j => ((my_fr.at frh34 is_175 rfl).trans (rfl : h63_0 175 j = h63_0 175 j))
                  have a181 : ∀ j : Int, h34 181 j = h63_0 181 j := fun j => ((my_fr.at frh34 is_181 rfl).trans (rfl : h63_0 181 j = h63_0 181 j))
                  exact ih_63_0 (p63_0) (p63_1) ((p63_2 + 1)) h34 (gh34) (by omega) (by omega) (by omega) (by omega) (by omega) (by omega) (by omega) (by omega) (by omega) (((my_fr.at frh34 is_151 rfl).trans c151_32_63_0).trans (by omega)) Mw_h34 Mw3_h34 Rws_h34 (by first | (rw [show h34 151 32 = h63_0 151 32 by omega]; exact Fc_cg ca (by omega) fc_63_0) | (rw [show h34 151 32 = h27_0 151 32 by omega]; exact Fc_cg ca (by omega) fc_27_0) | (rw [show h34 151 32 = h16_0 151 32 by omega]; exact Fc_cg ca (by omega) fc_16_0) | (rw [show h34 151 32 = h 151 32 by omega]; exact Fc_cg ca (by omega) fc0) | omega) (by omega) (by omega) (by first | exact wp_27_0 | exact wk_16_0 (by omega) | (rw [ca]; exact wk_16_0 (by omega)) | (rw [ca]; omega) | (rw [ca]; have z := pn2.2.2.1; rw [cb, ← ewdx] at z; omega) | omega) (by first | omega | (rw [ca]; omega) | omega) (by first | omega | (rw [ca]; exact ep_63_0) | omega) (by first | (intro i c a b; exfalso; omega) | (rw [show h34 151 27 = h63_0 151 27 by omega, show h34 151 37 = h63_0 151 37 by omega]; first | exact SL.1 | exact Shn_eq a182 SL.1 | exact (Shn_gone sl_63_0 su_63_0 ll_63_0 w8 (by omega) rn).1 | exact Shn_eq a182 (Shn_gone sl_63_0 su_63_0 ll_63_0 w8 (by omega) rn).1) | omega) (by first | exact sh_27_0 | exact Shn_eq a182 sh_27_0 | (rw [show h34 151 27 = h63_0 151 27 by omega, show h34 151 37 = h63_0 151 37 by omega]; first | exact SL.2 | exact Shn_eq a182 SL.2 | exact (Shn_gone sl_63_0 su_63_0 ll_63_0 w8 (by omega) rn).2 | exact Shn_eq a182 (Shn_gone sl_63_0 su_63_0 ll_63_0 w8 (by omega) rn).2) | omega) (by omega) (by omega) (by first | exact FwW_w (FwW_eq a174 a175 x6f) (by omega) | exact xf | exact FwW_w (FwW_eq a174 a175 fw_63_0) (by omega) | exact FwW_w (FwW_eq a174 a175 fw_27_0) (by omega) | exact FwW_w (FwW_eq a174 a175 fw_16_0) (by omega) | omega) (by first | exact FmN_0 (fun _ => rfl) (fun _ => rfl) | exact FmN_yes (by rw [← w6_63_0.1]; exact w8) fn_63_0 on lqy sf | exact FmN_no2 (by rw [← w6_63_0.1]; exact w8) fn_63_0 on (by have q := ro; unfold LfN at q; rw [eM, eP.1, w6_63_0.1, FmN_row (by omega) fn_63_0] at q; exact q) | assumption | omega) (by first | exact ⟨rfl, rfl, rfl, fun _ => rfl⟩ | exact ⟨by omega, by omega, by omega, fun j => (ca j).trans (w6_63_0.2.2.2 j)⟩ | assumption | omega) (by omega)
                ·
                  have gh37 : my_fr [(10, 27), (10, 32), (10, 33), (10, 37), (73, -1), (74, -1), (75, -1), (76, -1), (77, -1), (78, -1), (79, -1), (80, -1), (81, -1), (82, -1), (83, -1), (84, -1), (85, -1), (86, -1)] h h37 := my_fr.tr gh_63_0 (frh37.mo rfl)
                  have Mw_h37 : Mw h37 := Mw_ag (my_ag.fr frh37 rfl) n_Mw_63_0
                  have Mw3_h37 : Mw3 h37 := Mw3_ag (my_ag.fr frh37 rfl) n_Mw3_63_0
                  have Rws_h37 : Rws h37 := Rws_ag (my_ag.fr frh37 rfl) n_Rws_63_0
                  show wp l rho (d + 3) 194 81 [(2, 151), (0, x1), (0, x2), (0, p16_0), (0, p27_0), (0, p63_0), (0, p63_1), (0, p63_2)] [(0, 1)] h37 Q
                  have rn := xp38
                  have ro := xp39
                  have on : OneN h63_0 h37 p63_2 := ⟨fun j => my_fr.at frh37 is_181 rfl, by first | exact ro | exact rn⟩
                  have lqy : zqO2 (zqMS h x1) (h27_0 151 27) (mPk h p63_0) (zqN h27_0 (h27_0 151 27) (p63_2).toNat) = some (zqN h37 (wl h p63_0 (h27_0 151 27)) (p63_2).toNat) := by
                    have q := xp40
                    unfold LfY at q
                    rw [eM, eP.1, eP.2.1, w6_63_0.1, FmN_row (by omega) fn_63_0] at q
                    exact q
                  refine w_ifeq (t := 95) gz_194_81 rfl (fun u46 => by exfalso; omega) (fun u46 => ?_)
                  refine w_aload_n gz_194_84 rfl ?_
                  refine w_iload gz_194_85 rfl ?_
                  refine w_iload gz_194_87 rfl ?_
                  refine w_inv (k := 1) (as := [(0, p63_1), (0, p63_2)]) (r := []) (x := 151) (ls0 := [(2, 151), (0, p63_2), (0, p63_1), (9, 0)]) gz_194_89 gm_197 rfl is_151 rd_10 rfl rfl rfl rfl rfl (c_Model_shifts5 (d := (d + 2)) (x1 := p63_2) (x2 := p63_1) (by omega) (by omega) (by omega) (by omega) (fun h47 frh47 xp48 xp49 xp50 => ?_))
                  have gh47 : my_fr [(10, 27), (10, 32), (10, 33), (10, 37), (73, -1), (74, -1), (75, -1), (76, -1), (77, -1), (78, -1), (79, -1), (80, -1), (81, -1), (82, -1), (83, -1), (84, -1), (85, -1), (86, -1)] h h47 := my_fr.tr gh37 (frh47.mo rfl)
                  have Mw_h47 : Mw h47 := Mw_ag (my_ag.fr frh47 rfl) Mw_h37
                  have Mw3_h47 : Mw3 h47 := Mw3_ag (my_ag.fr frh47 rfl) Mw3_h37
                  have Rws_h47 : Rws h47 := Rws_ag (my_ag.fr frh47 rfl) Rws_h37
                  show wp l rho (d + 3) 194 92 [(2, 151), (0, x1), (0, x2), (0, p16_0), (0, p27_0), (0, p63_0), (0, p63_1), (0, p63_2)] [] h47 Q
                  have SL := Shn_left sl_63_0 su_63_0 V19 (by omega) ll_63_0 (by omega) w8 (by omega) (by have z := rn; rw [pn.2.2.2.1] at z; exact z) ro xp48 xp49
                  have sf := xp50
                  refine w_iinc (ls' := [(2, 151), (0, x1), (0, x2), (0, p16_0), (0, p27_0), (0, p63_0), (0, (p63_1 + 1)), (0, p63_2)]) gz_194_92 rfl gm_194 rfl rfl rfl ⟨by omega, by omega⟩ ?_
                  refine w_iinc (ls' := [(2, 151), (0, x1), (0, x2), (0, p16_0), (0, p27_0), (0, p63_0), (0, (p63_1 + 1)), (0, (p63_2 + 1))]) gz_194_95 rfl gm_194 rfl rfl rfl ⟨by omega, by omega⟩ ?_
                  refine w_goto (t := 63) gz_194_98 rfl ?_
                  have ca : ∀ j : Int, h47 177 j = h63_0 177 j := fun j => ((my_fr.at frh47 is_177 rfl).trans ((my_fr.at frh37 is_177 rfl).trans (rfl : h63_0 177 j = h63_0 177 j)))
                  have ce51 : h47 151 27 = h63_0 151 27 := ((my_fr.at frh47 is_151 rfl).trans ((my_fr.at frh37 is_151 rfl).trans (rfl : h63_0 151 27 = h63_0 151 27)))
                  have ce52 : h47 151 32 = p27_1 := ((my_fr.at frh47 is_151 rfl).trans ((my_fr.at frh37 is_151 rfl).trans c151_32_63_0))
                  have ce53 : h47 151 33 = h63_0 151 33 := ((my_fr.at frh47 is_151 rfl).trans ((my_fr.at frh37 is_151 rfl).trans (rfl : h63_0 151 33 = h63_0 151 33)))
                  have ce54 : h47 151 37 = v1 := ((my_fr.at frh47 is_151 rfl).trans ((my_fr.at frh37 is_151 rfl).trans ev1.symm))
                  have a182 : ∀ j : Int, h47 182 j = h47 182 j := fun j => rfl
                  have a174 : ∀ j : Int, h47 174 j = h63_0 174 j := fun j => ((my_fr.at frh47 is_174 rfl).trans ((my_fr.at frh37 is_174 rfl).trans (rfl : h63_0 174 j = h63_0 174 j)))
                  have a175 : ∀ j : Int, h47 175 j = h63_0 175 j := fun j => ((my_fr.at frh47 is_175 rfl).trans ((my_fr.at frh37 is_175 rfl).trans (rfl : h63_0 175 j = h63_0 175 j)))
                  have a181 : ∀ j : Int, h47 181 j = h47 181 j := fun j => rfl
                  exact ih_63_0 (p63_0) ((p63_1 + 1)) ((p63_2 + 1)) h47 (gh47) (by omega) (by omega) (by omega) (by omega) (by omega) (by omega) (by omega) (by omega) (by omega) (((my_fr.at frh47 is_151 rfl).trans ((my_fr.at frh37 is_151 rfl).trans c151_32_63_0)).trans (by omega)) Mw_h47 Mw3_h47 Rws_h47 (by first | (rw [show h47 151 32 = h63_0 151 32 by omega]; exact Fc_cg ca (by omega) fc_63_0) | (rw [show h47 151 32 = h27_0 151 32 by omega]; exact Fc_cg ca (by omega) fc_27_0) | (rw [show h47 151 32 = h16_0 151 32 by omega]; exact Fc_cg ca (by omega) fc_16_0) | (rw [show h47 151 32 = h 151 32 by omega]; exact Fc_cg ca (by omega) fc0) | omega) (by omega) (by omega) (by first | exact wp_27_0 | exact wk_16_0 (by omega) | (rw [ca]; exact wk_16_0 (by omega)) | (rw [ca]; omega) | (rw [ca]; have z := pn2.2.2.1; rw [cb, ← ewdx] at z; omega) | omega) (by first | omega | (rw [ca]; omega) | omega) (by first | omega | (rw [ca]; exact ep_63_0) | omega) (by first | (intro i c a b; exfalso; omega) | (rw [show h47 151 27 = h63_0 151 27 by omega, show h47 151 37 = h63_0 151 37 by omega]; first | exact SL.1 | exact Shn_eq a182 SL.1 | exact (Shn_gone sl_63_0 su_63_0 ll_63_0 w8 (by omega) rn).1 | exact Shn_eq a182 (Shn_gone sl_63_0 su_63_0 ll_63_0 w8 (by omega) rn).1) | omega) (by first | exact sh_27_0 | exact Shn_eq a182 sh_27_0 | (rw [show h47 151 27 = h63_0 151 27 by omega, show h47 151 37 = h63_0 151 37 by omega]; first | exact SL.2 | exact Shn_eq a182 SL.2 | exact (Shn_gone sl_63_0 su_63_0 ll_63_0 w8 (by omega) rn).2 | exact Shn_eq a182 (Shn_gone sl_63_0 su_63_0 ll_63_0 w8 (by omega) rn).2) | omega) (by omega) (by omega) (by first | exact FwW_w (FwW_eq a174 a175 x6f) (by omega) | exact xf | exact FwW_w (FwW_eq a174 a175 fw_63_0) (by omega) | exact FwW_w (FwW_eq a174 a175 fw_27_0) (by omega) | exact FwW_w (FwW_eq a174 a175 fw_16_0) (by omega) | omega) (by first | exact FmN_0 (fun _ => rfl) (fun _ => rfl) | exact FmN_yes (by rw [← w6_63_0.1]; exact w8) fn_63_0 on lqy sf | exact FmN_no2 (by rw [← w6_63_0.1]; exact w8) fn_63_0 on (by have q := ro; unfold LfN at q; rw [eM, eP.1, w6_63_0.1, FmN_row (by omega) fn_63_0] at q; exact q) | assumption | omega) (by first | exact ⟨rfl, rfl, rfl, fun _ => rfl⟩ | exact ⟨by omega, by omega, by omega, fun j => (ca j).trans (w6_63_0.2.2.2 j)⟩ | assumption | omega) (by omega)
          refine w_iload gz_194_27 rfl ?_
          refine w_aload_n gz_194_29 rfl ?_
          refine w_getX (v := 167) gz_194_30 is_151 rd_10 rfl (by decide) rfl ?_
          refine w_aload_n gz_194_33 rfl ?_
          refine w_getX (v := 177) gz_194_34 is_151 rd_10 rfl (by decide) rfl ?_
          refine w_iload_n gz_194_37 rfl ?_
          refine w_iald gz_194_38 is_177 rd_76 (by omega) (by omega) (fun v57 ev57 pv57 qv57 => ?_)
          have e32 : v57 = h27_0 177 p16_0 := by omega
          have f32 := f167 v57
          refine w_iald gz_194_39 is_167 rd_66 (by omega) (by omega) (fun v58 ev58 pv58 qv58 => ?_)
          have e33b : v58 = h 167 (h27_0 177 p16_0) := by rw [← e32]; omega
          refine w_icge (t := 136) gz_194_40 rfl (fun u59 => ?_) (fun u59 => ?_)
          ·
            have e57 : h 167 (h27_0 177 p16_0) = p27_0 := by omega
            have vc : VmI h27_0 (zqMS h x1) (h27_0 151 33) (h 157 (h27_0 151 33)) (mCW h (h27_0 177 p16_0)) := by
              rw [(mCW_eq hW tq.1 tq.2.1 tq.2.2).1, e57]
              exact vp_27_0
            refine w_iinc (ls' := [(2, 151), (0, x1), (0, x2), (0, (p16_0 + 1)), (0, p27_0), (9, 0), (9, 0), (9, 0)]) gz_194_136 rfl gm_194 rfl rfl rfl ⟨by omega, by omega⟩ ?_
            refine w_goto (t := 16) gz_194_139 rfl ?_
            have ca : ∀ j : Int, h27_0 177 j = h27_0 177 j := fun _ => rfl
            have ce60 : h27_0 151 32 = p27_1 := c151_32_27_0
            have a182 : ∀ j : Int, h27_0 182 j = h27_0 182 j := fun _ => rfl
            have a174 : ∀ j : Int, h27_0 174 j = h27_0 174 j := fun _ => rfl
            have a175 : ∀ j : Int, h27_0 175 j = h27_0 175 j := fun _ => rfl
            have a181 : ∀ j : Int, h27_0 181 j = h27_0 181 j := fun _ => rfl
            refine w_weak (ls' := [(2, 151), (0, x1), (0, x2), (0, (p16_0 + 1)), (9, 0), (9, 0), (9, 0), (9, 0)]) (wk_e (wk_e (wk_e (wk_e (wk_9 (wk_9 (wk_9 (wk_9 wk_n)))))))) ?_
            exact ih_16_0 ((p16_0 + 1)) h27_0 (gh_27_0) (by omega) (by omega) n_Mw_27_0 n_Mw3_27_0 n_Rws_27_0 (by first | (rw [show h27_0 151 32 = h63_0 151 32 by omega]; exact Fc_cg ca (by omega) fc_63_0) | (rw [show h27_0 151 32 = h27_0 151 32 by omega]; exact Fc_cg ca (by omega) fc_27_0) | (rw [show h27_0 151 32 = h16_0 151 32 by omega]; exact Fc_cg ca (by omega) fc_16_0) | (rw [show h27_0 151 32 = h 151 32 by omega]; exact Fc_cg ca (by omega) fc0) | omega) (by omega) (by omega) (by first | (intro q; exfalso; omega) | (intro q; rw [ca, Fc_first (W := W) fc0 (by omega)]; omega) | (intro q; rw [ca, Fc_next hW fc_27_0 (by omega) (by omega), e57]; omega) | omega) (by first | exact Shn_V xb (by omega) (by omega) (by omega) (by have z := (vb_bd (m := h27_0 151 37) (by omega) (by omega)).1; omega) | exact sh_16_0 | exact sh_27_0 | exact Shn_V (Shn_eq a182 xs) (by omega) (by omega) (by have z := pn2.2.2.2.2.2.2 (by omega); rw [← ewdx] at z; omega) (by rw [show h27_0 151 37 = xsm by omega]; exact Int.le_refl _) | exact Shn_V (Shn_eq a182 sl_63_0) (by omega) (by omega) (by have z := pn2.2.2.2.2.2.1 (by omega); rw [← ewdx, show wdx = h63_0 151 27 by omega] at z; rw [show wdx = h63_0 151 27 by omega] at xw; omega) (vb_mono (m := h63_0 151 37) (n := h27_0 151 37) (by omega) (by omega) (by omega)).1 | omega) (by first | exact FwW_w (FwW_eq a174 a175 x6f) (by omega) | exact xf | exact FwW_w (FwW_eq a174 a175 fw_63_0) (by omega) | exact FwW_w (FwW_eq a174 a175 fw_27_0) (by omega) | exact FwW_w (FwW_eq a174 a175 fw_16_0) (by omega) | omega) (by first | (intro _; rw [ca, Fc_bot fc0 (by omega)]; exact v0) | (intro q; rw [ca, Fc_un fc_27_0 (by omega) (by omega)]; exact vc) | assumption | omega) (by first | (intro z; exfalso; omega) | (intro q; have z := vc; rw [show p16_0 = h27_0 151 32 - 1 by omega, fc_27_0.2.2.2.1 (by omega)] at z; exact z) | assumption | omega) (by omega)
          ·
            refine w_bipush gz_194_43 (by decide) ?_
            refine w_aload_n gz_194_45 rfl ?_
            refine w_getX (v := 177) gz_194_46 is_151 rd_10 rfl (by decide) rfl ?_
            refine w_iload_n gz_194_49 rfl ?_
            refine w_iald gz_194_50 is_177 rd_76 (by omega) (by omega) (fun v62 ev62 pv62 qv62 => ?_)
            have zv62 := ev62.trans ev57.symm
            refine w_imul gz_194_51 ⟨by omega, by omega⟩ ?_
            refine w_iload gz_194_52 rfl ?_
            refine w_iadd gz_194_54 ⟨by omega, by omega⟩ ?_
            refine w_istore (ls' := [(2, 151), (0, x1), (0, x2), (0, p16_0), (0, p27_0), (0, ((6 * v62) + p27_0)), (9, 0), (9, 0)]) gz_194_55 gm_194 rfl rfl rfl ?_
            refine w_iconst gz_194_57 (by decide) ?_
            refine w_istore (ls' := [(2, 151), (0, x1), (0, x2), (0, p16_0), (0, p27_0), (0, ((6 * v62) + p27_0)), (0, 0), (9, 0)]) gz_194_58 gm_194 rfl rfl rfl ?_
            refine w_iconst gz_194_60 (by decide) ?_
            refine w_istore (ls' := [(2, 151), (0, x1), (0, x2), (0, p16_0), (0, p27_0), (0, ((6 * v62) + p27_0)), (0, 0), (0, 0)]) gz_194_61 gm_194 rfl rfl rfl ?_
            have ca : ∀ j : Int, h27_0 177 j = h27_0 177 j := fun _ => rfl
            have ce63 : h27_0 151 32 = p27_1 := c151_32_27_0
            have a182 : ∀ j : Int, h27_0 182 j = h27_0 182 j := fun _ => rfl
            have a174 : ∀ j : Int, h27_0 174 j = h27_0 174 j := fun _ => rfl
            have a175 : ∀ j : Int, h27_0 175 j = h27_0 175 j := fun _ => rfl
            have a181 : ∀ j : Int, h27_0 181 j = h27_0 181 j := fun _ => rfl
            exact J63_0 11 (((6 * v62) + p27_0)) (0) (0) h27_0 (gh_27_0) (by omega) (by omega) (by omega) (by omega) (by omega) (by omega) (by omega) (by omega) (by omega) (c151_32_27_0.trans (by omega)) n_Mw_27_0 n_Mw3_27_0 n_Rws_27_0 (by first | (rw [show h27_0 151 32 = h63_0 151 32 by omega]; exact Fc_cg ca (by omega) fc_63_0) | (rw [show h27_0 151 32 = h27_0 151 32 by omega]; exact Fc_cg ca (by omega) fc_27_0) | (rw [show h27_0 151 32 = h16_0 151 32 by omega]; exact Fc_cg ca (by omega) fc_16_0) | (rw [show h27_0 151 32 = h 151 32 by omega]; exact Fc_cg ca (by omega) fc0) | omega) (by omega) (by omega) (by first | exact wp_27_0 | exact wk_16_0 (by omega) | (rw [ca]; exact wk_16_0 (by omega)) | (rw [ca]; omega) | (rw [ca]; have z := pn2.2.2.1; rw [cb, ← ewdx] at z; omega) | omega) (by first | omega | (rw [ca]; omega) | omega) (by first | omega | (rw [ca]; exact ep_63_0) | omega) (by first | (intro i c a b; exfalso; omega) | (rw [show h27_0 151 27 = h63_0 151 27 by omega, show h27_0 151 37 = h63_0 151 37 by omega]; first | exact SL.1 | exact Shn_eq a182 SL.1 | exact (Shn_gone sl_63_0 su_63_0 ll_63_0 w8 (by omega) rn).1 | exact Shn_eq a182 (Shn_gone sl_63_0 su_63_0 ll_63_0 w8 (by omega) rn).1) | omega) (by first | exact sh_27_0 | exact Shn_eq a182 sh_27_0 | (rw [show h27_0 151 27 = h63_0 151 27 by omega, show h27_0 151 37 = h63_0 151 37 by omega]; first | exact SL.2 | exact Shn_eq a182 SL.2 | exact (Shn_gone sl_63_0 su_63_0 ll_63_0 w8 (by omega) rn).2 | exact Shn_eq a182 (Shn_gone sl_63_0 su_63_0 ll_63_0 w8 (by omega) rn).2) | omega) (by omega) (by omega) (by first | exact FwW_w (FwW_eq a174 a175 x6f) (by omega) | exact xf | exact FwW_w (FwW_eq a174 a175 fw_63_0) (by omega) | exact FwW_w (FwW_eq a174 a175 fw_27_0) (by omega) | exact FwW_w (FwW_eq a174 a175 fw_16_0) (by omega) | omega) (by first | exact FmN_0 (fun _ => rfl) (fun _ => rfl) | exact FmN_yes (by rw [← w6_63_0.1]; exact w8) fn_63_0 on lqy sf | exact FmN_no2 (by rw [← w6_63_0.1]; exact w8) fn_63_0 on (by have q := ro; unfold LfN at q; rw [eM, eP.1, w6_63_0.1, FmN_row (by omega) fn_63_0] at q; exact q) | assumption | omega) (by first | exact ⟨rfl, rfl, rfl, fun _ => rfl⟩ | exact ⟨by omega, by omega, by omega, fun j => (ca j).trans (w6_63_0.2.2.2 j)⟩ | assumption | omega) (by omega)
      refine w_iload_n gz_194_16 rfl ?_
      refine w_aload_n gz_194_17 rfl ?_
      refine v_getI (j := 32) gz_194_18 rfl is_151 rd_10 rfl (fun v64 ev64 pv64 qv64 => ?_)
      refine w_icge (t := 142) gz_194_21 rfl (fun u65 => ?_) (fun u65 => ?_)
      ·
        refine w_aload_n gz_194_142 rfl ?_
        refine w_inv (k := 2) (as := []) (r := []) (x := 151) (ls0 := [(2, 151), (9, 0), (9, 0)]) gz_194_143 gm_199 rfl is_151 rd_10 rfl rfl rfl rfl rfl (c_Model_sortShown5 (d := (d + 1))   (fun h66 frh66 xp67 => ?_))
        have gh66 : my_fr [(10, 27), (10, 32), (10, 33), (10, 37), (73, -1), (74, -1), (75, -1), (76, -1), (77, -1), (78, -1), (79, -1), (80, -1), (81, -1), (82, -1), (83, -1), (84, -1), (85, -1), (86, -1)] h h66 := my_fr.tr gh_16_0 (frh66.mo rfl)
        have Mw_h66 : Mw h66 := Mw_ag (my_ag.fr frh66 rfl) n_Mw_16_0
        have Mw3_h66 : Mw3 h66 := Mw3_ag (my_ag.fr frh66 rfl) n_Mw3_16_0
        have Rws_h66 : Rws h66 := Rws_ag (my_ag.fr frh66 rfl) n_Rws_16_0
        show wp l rho (d + 3) 194 146 [(2, 151), (0, x1), (0, x2), (0, p16_0), (9, 0), (9, 0), (9, 0), (9, 0)] [] h66 Q
        have so := xp67
        have g27 : h66 151 27 = h16_0 151 27 := my_fr.at frh66 is_151 rfl
        have g37 : h66 151 37 = h16_0 151 37 := my_fr.at frh66 is_151 rfl
        have g33 : h66 151 33 = h16_0 151 33 := my_fr.at frh66 is_151 rfl
        have vo := VmI_so (ve_16_0 (by omega)) g27 g37 so
        have gb := Fc_bs hW (by omega) (by omega) tx fc_16_0 (by omega)
        have ce68 : h66 151 27 = h16_0 151 27 := ((my_fr.at frh66 is_151 rfl).trans (rfl : h16_0 151 27 = h16_0 151 27))
        have a174 : ∀ j : Int, h66 174 j = h16_0 174 j := fun j => ((my_fr.at frh66 is_174 rfl).trans (rfl : h16_0 174 j = h16_0 174 j))
        have a175 : ∀ j : Int, h66 175 j = h16_0 175 j := fun j => ((my_fr.at frh66 is_175 rfl).trans (rfl : h16_0 175 j = h16_0 175 j))
        exact w_vret gz_194_146 gm_194 (k0 h66 (gh66) (by first | exact (FwW_w (FwW_eq a174 a175 fw_16_0) (by omega)) | (have z := vo.1; rw [gb] at z; exact z) | exact vo.2 | (rw [g33]; exact gb) | assumption | omega) (by first | exact (FwW_w (FwW_eq a174 a175 fw_16_0) (by omega)) | (have z := vo.1; rw [gb] at z; exact z) | exact vo.2 | (rw [g33]; exact gb) | assumption | omega) (by first | exact (FwW_w (FwW_eq a174 a175 fw_16_0) (by omega)) | (have z := vo.1; rw [gb] at z; exact z) | exact vo.2 | (rw [g33]; exact gb) | assumption | omega) (by first | exact (FwW_w (FwW_eq a174 a175 fw_16_0) (by omega)) | (have z := vo.1; rw [gb] at z; exact z) | exact vo.2 | (rw [g33]; exact gb) | assumption | omega))
      ·
        have qr0 := fc_16_0.2.2.2.2.2 p16_0 (by omega) (by omega)
        refine v_knowA (x := 167) is_167 rd_66 (fun kP => ?_)
        have kq := kP (h16_0 177 p16_0) (by omega) (by omega)
        have k7 : h16_0 167 (h16_0 177 p16_0) = h 167 (h16_0 177 p16_0) := my_fr.at gh_16_0 is_167 rfl
        refine w_iconst gz_194_24 (by decide) ?_
        refine w_istore (ls' := [(2, 151), (0, x1), (0, x2), (0, p16_0), (0, 0), (9, 0), (9, 0), (9, 0)]) gz_194_25 gm_194 rfl rfl rfl ?_
        have ca : ∀ j : Int, h16_0 177 j = h16_0 177 j := fun _ => rfl
        have ce69 : h16_0 151 32 = v64 := ev64.symm
        have a182 : ∀ j : Int, h16_0 182 j = h16_0 182 j := fun _ => rfl
        have a174 : ∀ j : Int, h16_0 174 j = h16_0 174 j := fun _ => rfl
        have a175 : ∀ j : Int, h16_0 175 j = h16_0 175 j := fun _ => rfl
        have a181 : ∀ j : Int, h16_0 181 j = h16_0 181 j := fun _ => rfl
        exact J27_0 7 (0) (v64) h16_0 (gh_16_0) (by omega) (by omega) (by omega) (by omega) (by omega) (by omega) (ev64.symm.trans (by omega)) n_Mw_16_0 n_Mw3_16_0 n_Rws_16_0 (by first | (rw [show h16_0 151 32 = h63_0 151 32 by omega]; exact Fc_cg ca (by omega) fc_63_0) | (rw [show h16_0 151 32 = h27_0 151 32 by omega]; exact Fc_cg ca (by omega) fc_27_0) | (rw [show h16_0 151 32 = h16_0 151 32 by omega]; exact Fc_cg ca (by omega) fc_16_0) | (rw [show h16_0 151 32 = h 151 32 by omega]; exact Fc_cg ca (by omega) fc0) | omega) (by omega) (by omega) (by first | exact wp_27_0 | exact wk_16_0 (by omega) | (rw [ca]; exact wk_16_0 (by omega)) | (rw [ca]; omega) | (rw [ca]; have z := pn2.2.2.1; rw [cb, ← ewdx] at z; omega) | omega) (by first | omega | (rw [ca]; omega) | omega) (by first | exact Shn_V xb (by omega) (by omega) (by omega) (by have z := (vb_bd (m := h16_0 151 37) (by omega) (by omega)).1; omega) | exact sh_16_0 | exact sh_27_0 | exact Shn_V (Shn_eq a182 xs) (by omega) (by omega) (by have z := pn2.2.2.2.2.2.2 (by omega); rw [← ewdx] at z; omega) (by rw [show h16_0 151 37 = xsm by omega]; exact Int.le_refl _) | exact Shn_V (Shn_eq a182 sl_63_0) (by omega) (by omega) (by have z := pn2.2.2.2.2.2.1 (by omega); rw [← ewdx, show wdx = h63_0 151 27 by omega] at z; rw [show wdx = h63_0 151 27 by omega] at xw; omega) (vb_mono (m := h63_0 151 37) (n := h16_0 151 37) (by omega) (by omega) (by omega)).1 | omega) (by first | exact FwW_w (FwW_eq a174 a175 x6f) (by omega) | exact xf | exact FwW_w (FwW_eq a174 a175 fw_63_0) (by omega) | exact FwW_w (FwW_eq a174 a175 fw_27_0) (by omega) | exact FwW_w (FwW_eq a174 a175 fw_16_0) (by omega) | omega) (by first | exact vk_16_0 (by omega) | (rw [show h16_0 151 33 = h27_0 151 33 by omega, ca, w6_63_0.2.2.2, show (0).toNat = (p27_0).toNat + 1 by omega]; exact vq) | assumption | omega) (by omega)
  refine w_aload_n gz_194_0 rfl ?_
  refine w_iload_n gz_194_1 rfl ?_
  refine w_inv (k := 2) (as := [(0, x2)]) (r := []) (x := 151) (ls0 := [(2, 151), (0, x2), (9, 0), (9, 0)]) gz_194_2 gm_180 rfl is_151 rd_10 rfl rfl rfl rfl rfl (c_Model_findChain (d := (d + 2)) (x1 := x2) (by omega) (by omega) n_Mw (by first | assumption | exact no_such_saying | exact Fp_told (by omega) (by omega) | omega | (subst_vars; omega) | omega) (fun h70 frh70 xp71 xp72 xp73 => ?_))
  have gh70 : my_fr [(10, 27), (10, 32), (10, 33), (10, 37), (73, -1), (74, -1), (75, -1), (76, -1), (77, -1), (78, -1), (79, -1), (80, -1), (81, -1), (82, -1), (83, -1), (84, -1), (85, -1), (86, -1)] h h70 := my_fr.tr my_fr.rf (frh70.mo rfl)
  have Mw_h70 : Mw h70 := Mw_ag (my_ag.fr frh70 rfl) n_Mw
  have Mw3_h70 : Mw3 h70 := Mw3_ag (my_ag.fr frh70 rfl) n_Mw3
  have Rws_h70 : Rws h70 := Rws_ag (my_ag.fr frh70 rfl) n_Rws
  show wp l rho (d + 3) 194 5 [(2, 151), (0, x1), (0, x2), (9, 0), (9, 0), (9, 0), (9, 0), (9, 0)] [] h70 Q
  have fc0 := xp71
  have fc1 := xp72
  have fc2 := xp73
  have b157 : h70 157 (h70 151 33) = h 157 (h70 151 33) := my_fr.at gh70 is_157 rfl
  refine w_aload_n gz_194_5 rfl ?_
  refine w_inv (k := 1) (as := []) (r := []) (x := 151) (ls0 := [(2, 151), (9, 0)]) gz_194_6 gm_181 rfl is_151 rd_10 rfl rfl rfl rfl rfl (c_Model_beginsColumns3 (d := (d + 2))   (fun h74 frh74 w75 w76 xp77 xp78 => ?_))
  have gh74 : my_fr [(10, 27), (10, 32), (10, 33), (10, 37), (73, -1), (74, -1), (75, -1), (76, -1), (77, -1), (78, -1), (79, -1), (80, -1), (81, -1), (82, -1), (83, -1), (84, -1), (85, -1), (86, -1)] h h74 := my_fr.tr gh70 (frh74.mo rfl)
  have Mw_h74 : Mw h74 := Mw_ag (my_ag.fr frh74 rfl) Mw_h70
  have Mw3_h74 : Mw3 h74 := Mw3_ag (my_ag.fr frh74 rfl) Mw3_h70
  have Rws_h74 : Rws h74 := Rws_ag (my_ag.fr frh74 rfl) Rws_h70
  show wp l rho (d + 3) 194 9 [(2, 151), (0, x1), (0, x2), (9, 0), (9, 0), (9, 0), (9, 0), (9, 0)] [] h74 Q
  have x6 := xp77
  have x6f := xp78
  have e33 : h74 151 33 = h70 151 33 := my_fr.at frh74 is_151 rfl
  have e57a : ∀ j : Int, h74 157 j = h70 157 j := fun j => my_fr.at frh74 is_157 rfl
  have e27 : h74 151 27 = h74 157 (h74 151 33) := by rw [e57a, e33]; exact x6
  have f57 : ∀ j : Int, h74 157 j = h 157 j := fun j => my_fr.at gh74 is_157 rfl
  have fM : zqMS h74 x1 = zqMS h x1 := MS_eq (fun j => my_fr.at gh74 is_162 rfl) (fun j => my_fr.at gh74 is_163 rfl)
  refine w_aload_n gz_194_9 rfl ?_
  refine w_iload_n gz_194_10 rfl ?_
  refine w_inv (k := 2) (as := [(0, x1)]) (r := []) (x := 151) (ls0 := [(2, 151), (0, x1), (9, 0), (9, 0)]) gz_194_11 gm_195 rfl is_151 rd_10 rfl rfl rfl rfl rfl (c_Model_begins5 (d := d) (x1 := x1) (by omega) (by omega) Rws_h74 (fun h79 frh79 xp80 xp81 => ?_))
  have gh79 : my_fr [(10, 27), (10, 32), (10, 33), (10, 37), (73, -1), (74, -1), (75, -1), (76, -1), (77, -1), (78, -1), (79, -1), (80, -1), (81, -1), (82, -1), (83, -1), (84, -1), (85, -1), (86, -1)] h h79 := my_fr.tr gh74 (frh79.mo rfl)
  have Mw_h79 : Mw h79 := Mw_ag (my_ag.fr frh79 rfl) Mw_h74
  have Mw3_h79 : Mw3 h79 := Mw3_ag (my_ag.fr frh79 rfl) Mw3_h74
  have Rws_h79 : Rws h79 := Rws_ag (my_ag.fr frh79 rfl) Rws_h74
  show wp l rho (d + 3) 194 14 [(2, 151), (0, x1), (0, x2), (9, 0), (9, 0), (9, 0), (9, 0), (9, 0)] [] h79 Q
  have xb := xp80
  have e33c : h79 151 33 = h74 151 33 := my_fr.at frh79 is_151 rfl
  have e27c : h79 151 27 = h74 151 27 := my_fr.at frh79 is_151 rfl
  have xq := xp81
  rw [fM, f57, ← e33c] at xq
  refine v_know (x := 151) (j := 37) (b := 37) rfl is_151 rd_10 rfl (fun k37 ek37 pk37 qk37 => ?_)
  have v0 : VmI h79 (zqMS h x1) (h79 151 33) (h 157 (h79 151 33)) ([]) := VmI_0 (by rw [e27c, e27, f57, ← e33c]) (by omega) (by omega) xq
  refine w_iconst gz_194_14 (by decide) ?_
  refine w_istore_n (ls' := [(2, 151), (0, x1), (0, x2), (0, 0), (9, 0), (9, 0), (9, 0), (9, 0)]) gz_194_15 gm_194 rfl rfl rfl ?_
  have ca : ∀ j : Int, h79 177 j = h70 177 j := fun j => ((my_fr.at frh79 is_177 rfl).trans ((my_fr.at frh74 is_177 rfl).trans (rfl : h70 177 j = h70 177 j)))
  have ce82 : h79 151 27 = (h74 151 27) := ((my_fr.at frh79 is_151 rfl).trans (rfl : h74 151 27 = h74 151 27))
  have ce83 : h79 151 32 = h70 151 32 := ((my_fr.at frh79 is_151 rfl).trans ((my_fr.at frh74 is_151 rfl).trans (rfl : h70 151 32 = h70 151 32)))
  have ce84 : h79 151 33 = h70 151 33 := ((my_fr.at frh79 is_151 rfl).trans ((my_fr.at frh74 is_151 rfl).trans (rfl : h70 151 33 = h70 151 33)))
  have a182 : ∀ j : Int, h79 182 j = h79 182 j := fun j => rfl
  have a174 : ∀ j : Int, h79 174 j = h74 174 j := fun j => ((my_fr.at frh79 is_174 rfl).trans (rfl : h74 174 j = h74 174 j))
  have a175 : ∀ j : Int, h79 175 j = h74 175 j := fun j => ((my_fr.at frh79 is_175 rfl).trans (rfl : h74 175 j = h74 175 j))
  have a181 : ∀ j : Int, h79 181 j = h79 181 j := fun j => rfl
  exact J16_0 7 (0) h79 (gh79) (by omega) (by omega) Mw_h79 Mw3_h79 Rws_h79 (by first | (rw [show h79 151 32 = h63_0 151 32 by omega]; exact Fc_cg ca (by omega) fc_63_0) | (rw [show h79 151 32 = h27_0 151 32 by omega]; exact Fc_cg ca (by omega) fc_27_0) | (rw [show h79 151 32 = h16_0 151 32 by omega]; exact Fc_cg ca (by omega) fc_16_0) | (rw [show h79 151 32 = h70 151 32 by omega]; exact Fc_cg ca (by omega) fc0) | omega) (by omega) (by omega) (by first | (intro q; exfalso; omega) | (intro q; rw [ca, Fc_first (W := W) fc0 (by omega)]; omega) | (intro q; rw [ca, Fc_next hW fc_27_0 (by omega) (by omega), e57]; omega) | omega) (by first | exact Shn_V xb (by omega) (by omega) (by omega) (by have z := (vb_bd (m := h79 151 37) (by omega) (by omega)).1; omega) | exact sh_16_0 | exact sh_27_0 | exact Shn_V (Shn_eq a182 xs) (by omega) (by omega) (by have z := pn2.2.2.2.2.2.2 (by omega); rw [← ewdx] at z; omega) (by rw [show h79 151 37 = xsm by omega]; exact Int.le_refl _) | exact Shn_V (Shn_eq a182 sl_63_0) (by omega) (by omega) (by have z := pn2.2.2.2.2.2.1 (by omega); rw [← ewdx, show wdx = h63_0 151 27 by omega] at z; rw [show wdx = h63_0 151 27 by omega] at xw; omega) (vb_mono (m := h63_0 151 37) (n := h79 151 37) (by omega) (by omega) (by omega)).1 | omega) (by first | exact FwW_w (FwW_eq a174 a175 x6f) (by omega) | exact xf | exact FwW_w (FwW_eq a174 a175 fw_63_0) (by omega) | exact FwW_w (FwW_eq a174 a175 fw_27_0) (by omega) | exact FwW_w (FwW_eq a174 a175 fw_16_0) (by omega) | omega) (by first | (intro _; rw [ca, Fc_bot fc0 (by omega)]; exact v0) | (intro q; rw [ca, Fc_un fc_27_0 (by omega) (by omega)]; exact vc) | assumption | omega) (by first | (intro z; exfalso; omega) | (intro q; have z := vc; rw [show p16_0 = h27_0 151 32 - 1 by omega, fc_27_0.2.2.2.1 (by omega)] at z; exact z) | assumption | omega) (by omega)
end MYNModel_shows5
