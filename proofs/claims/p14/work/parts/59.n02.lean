/-! contracts, printed by wip/gen/gy.py -/
section MYNModel_shows
theorem c_Model_shows {l : Launch} {rho : Nat → Int32} {d : Nat} {h : my_H} {Q : my_H → my_V → Prop} {x1 x2 : Int} (a1 : 0 ≤ x1) (b1 : x1 ≤ 15) (a2 : 0 ≤ x2) (b2 : x2 ≤ 5) (n_Mw : Mw h) (n_Mw3 : Mw3 h) (n_Rws : Rws h) (hfp : Fp h x2) (k0 : ∀ (h' : my_H), my_fr [(10, 27), (10, 32), (10, 33), (10, 37), (73, -1), (74, -1), (75, -1), (76, -1), (77, -1), (78, -1), (79, -1), (80, -1), (81, -1), (82, -1), (83, -1), (84, -1), (85, -1), (86, -1)] h h' → Q h' (9, 0)) : wp l rho (d + 3) 194 0 [(2, 151), (0, x1), (0, x2), (9, 0), (9, 0), (9, 0), (9, 0), (9, 0)] [] h Q := by
  have nM3 := n_Mw3
  obtain ⟨W, hM3⟩ := nM3
  have hW := hM3.1
  have tx := hfp.1 (by omega)
  refine v_all is_171 rd_70 (fun k171 => ?_)
  have J16_0 : ∀ (n : Nat) (p16_0 : Int) (h16_0 : my_H), my_fr [(10, 27), (10, 32), (10, 33), (10, 37), (73, -1), (74, -1), (75, -1), (76, -1), (77, -1), (78, -1), (79, -1), (80, -1), (81, -1), (82, -1), (83, -1), (84, -1), (85, -1), (86, -1)] h h16_0 → 0 ≤ p16_0 → p16_0 ≤ 6 → Mw h16_0 → Mw3 h16_0 → Rws h16_0 → Fc h h16_0 (h16_0 151 32) (-1) x2 → 1 ≤ h16_0 151 32 → p16_0 ≤ h16_0 151 32 → (p16_0 < h16_0 151 32 → h16_0 151 27 = mst h W (h16_0 177 p16_0)) → Shn h16_0 0 (h16_0 151 37) (h16_0 151 27) (vb (h16_0 151 37)) → 7 - p16_0 ≤ (n : Int) → wp l rho (d + 3) 194 16 [(2, 151), (0, x1), (0, x2), (0, p16_0), (9, 0), (9, 0), (9, 0), (9, 0)] [] h16_0 Q := by
    intro n
    induction n with
    | zero => intro p16_0 h16_0 gh_16_0 q0_16_0 q1_16_0 n_Mw_16_0 n_Mw3_16_0 n_Rws_16_0 fc_16_0 c1_16_0 lk_16_0 wk_16_0 sh_16_0 hm_16_0; exfalso; omega
    | succ n ih_16_0 =>
      intro p16_0 h16_0 gh_16_0 q0_16_0 q1_16_0 n_Mw_16_0 n_Mw3_16_0 n_Rws_16_0 fc_16_0 c1_16_0 lk_16_0 wk_16_0 sh_16_0 hm_16_0
      have J27_0 : ∀ (n : Nat) (p27_0 p27_1 : Int) (h27_0 : my_H), my_fr [(10, 27), (10, 32), (10, 33), (10, 37), (73, -1), (74, -1), (75, -1), (76, -1), (77, -1), (78, -1), (79, -1), (80, -1), (81, -1), (82, -1), (83, -1), (84, -1), (85, -1), (86, -1)] h h27_0 → p16_0 ≤ 5 → 0 ≤ p27_0 → p27_0 ≤ 6 → 1 ≤ p27_1 → p27_1 ≤ 6 → p16_0 ≤ (p27_1 - 1) → h27_0 151 32 = p27_1 → Mw h27_0 → Mw3 h27_0 → Rws h27_0 → Fc h h27_0 (h27_0 151 32) (-1) x2 → 1 ≤ h27_0 151 32 → p16_0 < h27_0 151 32 → h27_0 151 27 = mwf h (h27_0 177 p16_0) (mst h W (h27_0 177 p16_0)) p27_0.toNat → p27_0 ≤ h 167 (h27_0 177 p16_0) → Shn h27_0 0 (h27_0 151 37) (h27_0 151 27) (vb (h27_0 151 37)) → 7 - p27_0 ≤ (n : Int) → wp l rho (d + 3) 194 27 [(2, 151), (0, x1), (0, x2), (0, p16_0), (0, p27_0), (9, 0), (9, 0), (9, 0)] [] h27_0 Q := by
        intro n
        induction n with
        | zero => intro p27_0 p27_1 h27_0 gh_27_0 q0_27_0 q1_27_0 q2_27_0 q3_27_0 q4_27_0 q5_27_0 c151_32_27_0 n_Mw_27_0 n_Mw3_27_0 n_Rws_27_0 fc_27_0 c1_27_0 lk_27_0 wp_27_0 lp_27_0 sh_27_0 hm_27_0; exfalso; omega
        | succ n ih_27_0 =>
          intro p27_0 p27_1 h27_0 gh_27_0 q0_27_0 q1_27_0 q2_27_0 q3_27_0 q4_27_0 q5_27_0 c151_32_27_0 n_Mw_27_0 n_Mw3_27_0 n_Rws_27_0 fc_27_0 c1_27_0 lk_27_0 wp_27_0 lp_27_0 sh_27_0 hm_27_0
          have qr := fc_27_0.2.2.2.2.2 p16_0 (by omega) lk_27_0
          have f167 : ∀ j : Int, h27_0 167 j = h 167 j := fun j => my_fr.at gh_27_0 is_167 rfl
          have J63_0 : ∀ (n : Nat) (p63_0 p63_1 p63_2 : Int) (h63_0 : my_H), my_fr [(10, 27), (10, 32), (10, 33), (10, 37), (73, -1), (74, -1), (75, -1), (76, -1), (77, -1), (78, -1), (79, -1), (80, -1), (81, -1), (82, -1), (83, -1), (84, -1), (85, -1), (86, -1)] h h63_0 → p27_0 ≤ 5 → 0 ≤ p63_0 → p63_0 ≤ 41 → 0 ≤ p63_1 → p63_1 ≤ 10 → 0 ≤ p63_2 → p63_2 ≤ 10 → p63_1 ≤ p63_2 → p16_0 ≤ (p27_1 - 1) → h63_0 151 32 = p27_1 → Mw h63_0 → Mw3 h63_0 → Rws h63_0 → Fc h h63_0 (h63_0 151 32) (-1) x2 → 1 ≤ h63_0 151 32 → p16_0 < h63_0 151 32 → h63_0 151 27 = mwf h (h63_0 177 p16_0) (mst h W (h63_0 177 p16_0)) p27_0.toNat → p27_0 < h 167 (h63_0 177 p16_0) → p63_0 = 6 * (h63_0 177 p16_0) + p27_0 → Shn h63_0 0 p63_1 (wl h p63_0 (h63_0 151 27)) (vb (h63_0 151 37)) → Shn h63_0 p63_2 (h63_0 151 37) (h63_0 151 27) (vb (h63_0 151 37)) → p63_1 ≤ p63_2 → p63_2 ≤ h63_0 151 37 → 11 - p63_2 ≤ (n : Int) → wp l rho (d + 3) 194 63 [(2, 151), (0, x1), (0, x2), (0, p16_0), (0, p27_0), (0, p63_0), (0, p63_1), (0, p63_2)] [] h63_0 Q := by
            intro n
            induction n with
            | zero => intro p63_0 p63_1 p63_2 h63_0 gh_63_0 q0_63_0 q1_63_0 q2_63_0 q3_63_0 q4_63_0 q5_63_0 q6_63_0 q7_63_0 q8_63_0 c151_32_63_0 n_Mw_63_0 n_Mw3_63_0 n_Rws_63_0 fc_63_0 c1_63_0 lk_63_0 wp_63_0 lp_63_0 ep_63_0 sl_63_0 su_63_0 ll_63_0 lm_63_0 hm_63_0; exfalso; omega
            | succ n ih_63_0 =>
              intro p63_0 p63_1 p63_2 h63_0 gh_63_0 q0_63_0 q1_63_0 q2_63_0 q3_63_0 q4_63_0 q5_63_0 q6_63_0 q7_63_0 q8_63_0 c151_32_63_0 n_Mw_63_0 n_Mw3_63_0 n_Rws_63_0 fc_63_0 c1_63_0 lk_63_0 wp_63_0 lp_63_0 ep_63_0 sl_63_0 su_63_0 ll_63_0 lm_63_0 hm_63_0
              have qr := Fc_told (by omega) tx (by omega) fc_63_0 (by omega : 0 ≤ p16_0) lk_63_0
              have pn := Pane_at hM3 (by omega) tx (by omega) fc_63_0 (by omega : 0 ≤ p16_0) lk_63_0 (s := p27_0) (by omega) lp_63_0 (fun j => my_fr.at gh_63_0 is_157 rfl) (fun j => my_fr.at gh_63_0 is_168 rfl) (fun j => my_fr.at gh_63_0 is_169 rfl) (fun j => my_fr.at gh_63_0 is_170 rfl) (fun j => my_fr.at gh_63_0 is_171 rfl) (fun j => my_fr.at gh_63_0 is_172 rfl) wp_63_0 ep_63_0
              refine v_know (x := 151) (j := 27) (b := 27) rfl is_151 rd_10 rfl (fun k27 ek27 pk27 qk27 => ?_)
              refine v_know (x := 151) (j := 37) (b := 37) rfl is_151 rd_10 rfl (fun k37 ek37 pk37 qk37 => ?_)
              have w8 : wl h p63_0 (h63_0 151 27) ≤ 8 := wl_8 (by omega) pn.2.2.2.2.1 (k171 p63_0 (by omega) (by omega)).2
              have V19 := (vb_bd (m := h63_0 151 37) (by omega) (by omega)).1
              refine w_iload gz_194_63 rfl ?_
              refine w_aload_n gz_194_65 rfl ?_
              refine v_getI (j := 37) gz_194_66 rfl is_151 rd_10 rfl (fun v1 ev1 pv1 qv1 => ?_)
              refine w_icge (t := 101) gz_194_69 rfl (fun u2 => ?_) (fun u2 => ?_)
              ·
                refine w_aload_n gz_194_101 rfl ?_
                refine w_iload gz_194_102 rfl ?_
                refine v_putI (j := 37) gz_194_104 rfl is_151 rd_10 rfl (by omega) (by omega) rfl (fun h3 fh3 => ?_)
                have gh3 : my_fr [(10, 27), (10, 32), (10, 33), (10, 37), (73, -1), (74, -1), (75, -1), (76, -1), (77, -1), (78, -1), (79, -1), (80, -1), (81, -1), (82, -1), (83, -1), (84, -1), (85, -1), (86, -1)] h h3 := my_fr.up gh_63_0 is_151 fh3 rfl
                have Mw_h3 : Mw h3 := Mw_ag (my_ag.up fh3 is_151 rfl) n_Mw_63_0
                have Mw3_h3 : Mw3 h3 := Mw3_ag (my_ag.up fh3 is_151 rfl) n_Mw3_63_0
                have Rws_h3 : Rws h3 := Rws_ag (my_ag.up fh3 is_151 rfl) n_Rws_63_0
                refine w_aload_n gz_194_107 rfl ?_
                refine w_getX (v := 168) gz_194_108 is_151 rd_10 rfl (by decide) rfl ?_
                refine w_iload gz_194_111 rfl ?_
                refine w_iald gz_194_113 is_168 rd_67 (by omega) (by omega) (fun v5 ev5 pv5 qv5 => ?_)
                refine w_iconst gz_194_114 (by decide) ?_
                refine w_icne (t := 124) gz_194_115 rfl (fun u6 => ?_) (fun u6 => ?_)
                ·
                  refine w_aload_n gz_194_124 rfl ?_
                  refine w_iload gz_194_125 rfl ?_
                  have cb : ∀ j : Int, h3 177 j = h63_0 177 j := fun j => ((my_up_role fh3 is_177 is_151 rfl).trans (rfl : h63_0 177 j = h63_0 177 j))
                  have ce7 : h3 151 27 = h63_0 151 27 := ((my_up_fld fh3 (by decide)).trans (rfl : h63_0 151 27 = h63_0 151 27))
                  have ce8 : h3 151 32 = p27_1 := ((my_up_fld fh3 (by decide)).trans c151_32_63_0)
                  have ce9 : h3 151 33 = h63_0 151 33 := ((my_up_fld fh3 (by decide)).trans (rfl : h63_0 151 33 = h63_0 151 33))
                  have ce10 : h3 151 37 = p63_1 := (my_up_self fh3)
                  have fcx : Fc h h3 (h63_0 151 32) (-1) x2 := Fc_cg cb (by omega) fc_63_0
                  have pn2 := Pane_at hM3 (by omega) tx (by omega) fcx (by omega : 0 ≤ p16_0) lk_63_0 (s := p27_0) (wd := h3 151 27) (q := p63_0) (by omega) (by rw [cb]; exact lp_63_0) (fun j => my_fr.at gh3 is_157 rfl) (fun j => my_fr.at gh3 is_168 rfl) (fun j => my_fr.at gh3 is_169 rfl) (fun j => my_fr.at gh3 is_170 rfl) (fun j => my_fr.at gh3 is_171 rfl) (fun j => my_fr.at gh3 is_172 rfl) (by rw [cb]; omega) (by rw [cb]; exact ep_63_0)
                  refine w_inv (k := 1) (as := [(0, p63_0)]) (r := []) (x := 151) (ls0 := [(2, 151), (0, p63_0), (9, 0)]) gz_194_127 gm_182 rfl is_151 rd_10 rfl rfl rfl rfl rfl (c_Model_pane2 (d := (d + 2)) (x1 := p63_0) (by omega) (by omega) (pn2.2.1) (fun h11 frh11 xp12 xp13 => ?_))
                  have gh11 : my_fr [(10, 27), (10, 32), (10, 33), (10, 37), (73, -1), (74, -1), (75, -1), (76, -1), (77, -1), (78, -1), (79, -1), (80, -1), (81, -1), (82, -1), (83, -1), (84, -1), (85, -1), (86, -1)] h h11 := my_fr.tr gh3 (frh11.mo rfl)
                  have Mw_h11 : Mw h11 := Mw_ag (my_ag.fr frh11 rfl) Mw_h3
                  have Mw3_h11 : Mw3 h11 := Mw3_ag (my_ag.fr frh11 rfl) Mw3_h3
                  have Rws_h11 : Rws h11 := Rws_ag (my_ag.fr frh11 rfl) Rws_h3
                  show wp l rho (d + 3) 194 130 [(2, 151), (0, x1), (0, x2), (0, p16_0), (0, p27_0), (0, p63_0), (0, p63_1), (0, p63_2)] [] h11 Q
                  have xw := xp12
                  refine w_iinc (ls' := [(2, 151), (0, x1), (0, x2), (0, p16_0), (0, (p27_0 + 1)), (0, p63_0), (0, p63_1), (0, p63_2)]) gz_194_130 rfl gm_194 rfl rfl rfl ⟨by omega, by omega⟩ ?_
                  refine w_goto (t := 27) gz_194_133 rfl ?_
                  have ca : ∀ j : Int, h11 177 j = h63_0 177 j := fun j => ((my_fr.at frh11 is_177 rfl).trans ((my_up_role fh3 is_177 is_151 rfl).trans (rfl : h63_0 177 j = h63_0 177 j)))
                  have ce14 : h11 151 32 = p27_1 := ((my_fr.at frh11 is_151 rfl).trans ((my_up_fld fh3 (by decide)).trans c151_32_63_0))
                  have ce15 : h11 151 33 = h63_0 151 33 := ((my_fr.at frh11 is_151 rfl).trans ((my_up_fld fh3 (by decide)).trans (rfl : h63_0 151 33 = h63_0 151 33)))
                  have ce16 : h11 151 37 = p63_1 := ((my_fr.at frh11 is_151 rfl).trans (my_up_self fh3))
                  have a182 : ∀ j : Int, h11 182 j = h63_0 182 j := fun j => ((my_fr.at frh11 is_182 rfl).trans ((my_up_role fh3 is_182 is_151 rfl).trans (rfl : h63_0 182 j = h63_0 182 j)))
                  refine w_weak (ls' := [(2, 151), (0, x1), (0, x2), (0, p16_0), (0, (p27_0 + 1)), (9, 0), (9, 0), (9, 0)]) (wk_e (wk_e (wk_e (wk_e (wk_e (wk_9 (wk_9 (wk_9 wk_n)))))))) ?_
                  exact ih_27_0 ((p27_0 + 1)) (p27_1) h11 (gh11) (by omega) (by omega) (by omega) (by omega) (by omega) (by omega) (((my_fr.at frh11 is_151 rfl).trans ((my_up_fld fh3 (by decide)).trans c151_32_63_0)).trans (by omega)) Mw_h11 Mw3_h11 Rws_h11 (by first | (rw [show h11 151 32 = h63_0 151 32 by omega]; exact Fc_cg ca (by omega) fc_63_0) | (rw [show h11 151 32 = h27_0 151 32 by omega]; exact Fc_cg ca (by omega) fc_27_0) | (rw [show h11 151 32 = h16_0 151 32 by omega]; exact Fc_cg ca (by omega) fc_16_0) | (rw [show h11 151 32 = h 151 32 by omega]; exact Fc_cg ca (by omega) fc0) | omega) (by omega) (by omega) (by first | exact wp_27_0 | exact wk_16_0 (by omega) | (rw [ca]; exact wk_16_0 (by omega)) | (rw [ca]; omega) | (rw [ca]; have z := pn2.2.2.1; rw [cb] at z; omega) | omega) (by first | omega | (rw [ca]; omega) | omega) (by first | exact Shn_V xb (by omega) (by omega) (by omega) (by have z := (vb_bd (m := h11 151 37) (by omega) (by omega)).1; omega) | exact sh_16_0 | exact sh_27_0 | exact Shn_V (Shn_eq a182 xs) (by omega) (by omega) (by have z := pn2.2.2.2.2.2.2 (by omega); omega) (by rw [show h11 151 37 = xsm by omega]; exact Int.le_refl _) | exact Shn_V (Shn_eq a182 sl_63_0) (by omega) (by omega) (by have z := pn2.2.2.2.2.2.1 (by omega); rw [show wdx = h63_0 151 27 by omega] at z; omega) (vb_mono (m := h63_0 151 37) (n := h11 151 37) (by omega) (by omega) (by omega)).1 | omega) (by omega)
                ·
                  refine w_aload_n gz_194_118 rfl ?_
                  refine w_iload gz_194_119 rfl ?_
                  have ce17 : h3 151 37 = p63_1 := (my_up_self fh3)
                  have ce18 : h3 151 27 = h63_0 151 27 := ((my_up_fld fh3 (by decide)).trans (rfl : h63_0 151 27 = h63_0 151 27))
                  have d182 : ∀ j : Int, h3 182 j = h63_0 182 j := fun j => ((my_up_role fh3 is_182 is_151 rfl).trans (rfl : h63_0 182 j = h63_0 182 j))
                  have e168 : h3 168 p63_0 = h63_0 168 p63_0 := my_fr.at gh3 is_168 rfl |>.trans (my_fr.at gh_63_0 is_168 rfl).symm
                  have k5 : h3 168 p63_0 = 5 := by omega
                  refine w_inv (k := 4) (as := [(0, p63_0)]) (r := []) (x := 151) (ls0 := [(2, 151), (0, p63_0), (9, 0), (9, 0), (9, 0), (9, 0)]) gz_194_121 gm_198 rfl is_151 rd_10 rfl rfl rfl rfl rfl (c_Model_sums (d := (d + 2)) (x1 := p63_0) (by omega) (by omega) (k5) (pk5) (sh5) (fun h19 frh19 xp20 xp21 => ?_))
                  have gh19 : my_fr [(10, 27), (10, 32), (10, 33), (10, 37), (73, -1), (74, -1), (75, -1), (76, -1), (77, -1), (78, -1), (79, -1), (80, -1), (81, -1), (82, -1), (83, -1), (84, -1), (85, -1), (86, -1)] h h19 := my_fr.tr gh3 (frh19.mo rfl)
                  have Mw_h19 : Mw h19 := Mw_ag (my_ag.fr frh19 rfl) Mw_h3
                  have Mw3_h19 : Mw3 h19 := Mw3_ag (my_ag.fr frh19 rfl) Mw3_h3
                  have Rws_h19 : Rws h19 := Rws_ag (my_ag.fr frh19 rfl) Rws_h3
                  show wp l rho (d + 3) 194 124 [(2, 151), (0, x1), (0, x2), (0, p16_0), (0, p27_0), (0, p63_0), (0, p63_1), (0, p63_2)] [] h19 Q
                  have xm := xp20
                  have xs := xp21
                  refine w_aload_n gz_194_124 rfl ?_
                  refine w_iload gz_194_125 rfl ?_
                  have cb : ∀ j : Int, h19 177 j = h63_0 177 j := fun j => ((my_fr.at frh19 is_177 rfl).trans ((my_up_role fh3 is_177 is_151 rfl).trans (rfl : h63_0 177 j = h63_0 177 j)))
                  have ce22 : h19 151 27 = h63_0 151 27 := ((my_fr.at frh19 is_151 rfl).trans ((my_up_fld fh3 (by decide)).trans (rfl : h63_0 151 27 = h63_0 151 27)))
                  have ce23 : h19 151 32 = p27_1 := ((my_fr.at frh19 is_151 rfl).trans ((my_up_fld fh3 (by decide)).trans c151_32_63_0))
                  have ce24 : h19 151 33 = h63_0 151 33 := ((my_fr.at frh19 is_151 rfl).trans ((my_up_fld fh3 (by decide)).trans (rfl : h63_0 151 33 = h63_0 151 33)))
                  have fcx : Fc h h19 (h63_0 151 32) (-1) x2 := Fc_cg cb (by omega) fc_63_0
                  have pn2 := Pane_at hM3 (by omega) tx (by omega) fcx (by omega : 0 ≤ p16_0) lk_63_0 (s := p27_0) (wd := h19 151 27) (q := p63_0) (by omega) (by rw [cb]; exact lp_63_0) (fun j => my_fr.at gh19 is_157 rfl) (fun j => my_fr.at gh19 is_168 rfl) (fun j => my_fr.at gh19 is_169 rfl) (fun j => my_fr.at gh19 is_170 rfl) (fun j => my_fr.at gh19 is_171 rfl) (fun j => my_fr.at gh19 is_172 rfl) (by rw [cb]; omega) (by rw [cb]; exact ep_63_0)
                  refine w_inv (k := 1) (as := [(0, p63_0)]) (r := []) (x := 151) (ls0 := [(2, 151), (0, p63_0), (9, 0)]) gz_194_127 gm_182 rfl is_151 rd_10 rfl rfl rfl rfl rfl (c_Model_pane2 (d := (d + 2)) (x1 := p63_0) (by omega) (by omega) (pn2.2.1) (fun h25 frh25 xp26 xp27 => ?_))
                  have gh25 : my_fr [(10, 27), (10, 32), (10, 33), (10, 37), (73, -1), (74, -1), (75, -1), (76, -1), (77, -1), (78, -1), (79, -1), (80, -1), (81, -1), (82, -1), (83, -1), (84, -1), (85, -1), (86, -1)] h h25 := my_fr.tr gh19 (frh25.mo rfl)
                  have Mw_h25 : Mw h25 := Mw_ag (my_ag.fr frh25 rfl) Mw_h19
                  have Mw3_h25 : Mw3 h25 := Mw3_ag (my_ag.fr frh25 rfl) Mw3_h19
                  have Rws_h25 : Rws h25 := Rws_ag (my_ag.fr frh25 rfl) Rws_h19
                  show wp l rho (d + 3) 194 130 [(2, 151), (0, x1), (0, x2), (0, p16_0), (0, p27_0), (0, p63_0), (0, p63_1), (0, p63_2)] [] h25 Q
                  have xw := xp26
                  refine w_iinc (ls' := [(2, 151), (0, x1), (0, x2), (0, p16_0), (0, (p27_0 + 1)), (0, p63_0), (0, p63_1), (0, p63_2)]) gz_194_130 rfl gm_194 rfl rfl rfl ⟨by omega, by omega⟩ ?_
                  refine w_goto (t := 27) gz_194_133 rfl ?_
                  have ca : ∀ j : Int, h25 177 j = h63_0 177 j := fun j => ((my_fr.at frh25 is_177 rfl).trans ((my_fr.at frh19 is_177 rfl).trans ((my_up_role fh3 is_177 is_151 rfl).trans (rfl : h63_0 177 j = h63_0 177 j))))
                  have ce28 : h25 151 32 = p27_1 := ((my_fr.at frh25 is_151 rfl).trans ((my_fr.at frh19 is_151 rfl).trans ((my_up_fld fh3 (by decide)).trans c151_32_63_0)))
                  have ce29 : h25 151 33 = h63_0 151 33 := ((my_fr.at frh25 is_151 rfl).trans ((my_fr.at frh19 is_151 rfl).trans ((my_up_fld fh3 (by decide)).trans (rfl : h63_0 151 33 = h63_0 151 33))))
                  have ce30 : h25 151 37 = h19 151 37 := ((my_fr.at frh25 is_151 rfl).trans (rfl : h19 151 37 = h19 151 37))
                  have a182 : ∀ j : Int, h25 182 j = h19 182 j := fun j => ((my_fr.at frh25 is_182 rfl).trans (rfl : h19 182 j = h19 182 j))
                  refine w_weak (ls' := [(2, 151), (0, x1), (0, x2), (0, p16_0), (0, (p27_0 + 1)), (9, 0), (9, 0), (9, 0)]) (wk_e (wk_e (wk_e (wk_e (wk_e (wk_9 (wk_9 (wk_9 wk_n)))))))) ?_
                  exact ih_27_0 ((p27_0 + 1)) (p27_1) h25 (gh25) (by omega) (by omega) (by omega) (by omega) (by omega) (by omega) (((my_fr.at frh25 is_151 rfl).trans ((my_fr.at frh19 is_151 rfl).trans ((my_up_fld fh3 (by decide)).trans c151_32_63_0))).trans (by omega)) Mw_h25 Mw3_h25 Rws_h25 (by first | (rw [show h25 151 32 = h63_0 151 32 by omega]; exact Fc_cg ca (by omega) fc_63_0) | (rw [show h25 151 32 = h27_0 151 32 by omega]; exact Fc_cg ca (by omega) fc_27_0) | (rw [show h25 151 32 = h16_0 151 32 by omega]; exact Fc_cg ca (by omega) fc_16_0) | (rw [show h25 151 32 = h 151 32 by omega]; exact Fc_cg ca (by omega) fc0) | omega) (by omega) (by omega) (by first | exact wp_27_0 | exact wk_16_0 (by omega) | (rw [ca]; exact wk_16_0 (by omega)) | (rw [ca]; omega) | (rw [ca]; have z := pn2.2.2.1; rw [cb] at z; omega) | omega) (by first | omega | (rw [ca]; omega) | omega) (by first | exact Shn_V xb (by omega) (by omega) (by omega) (by have z := (vb_bd (m := h25 151 37) (by omega) (by omega)).1; omega) | exact sh_16_0 | exact sh_27_0 | exact Shn_V (Shn_eq a182 xs) (by omega) (by omega) (by have z := pn2.2.2.2.2.2.2 (by omega); omega) (by rw [show h25 151 37 = xsm by omega]; exact Int.le_refl _) | exact Shn_V (Shn_eq a182 sl_63_0) (by omega) (by omega) (by have z := pn2.2.2.2.2.2.1 (by omega); rw [show wdx = h63_0 151 27 by omega] at z; omega) (vb_mono (m := h63_0 151 37) (n := h25 151 37) (by omega) (by omega) (by omega)).1 | omega) (by omega)
              ·
                refine w_aload_n gz_194_72 rfl ?_
                refine w_iload_n gz_194_73 rfl ?_
                refine w_iload gz_194_74 rfl ?_
                refine w_iload gz_194_76 rfl ?_
                refine w_inv (k := 2) (as := [(0, p63_2), (0, p63_0), (0, x1)]) (r := []) (x := 151) (ls0 := [(2, 151), (0, x1), (0, p63_0), (0, p63_2), (9, 0), (9, 0)]) gz_194_78 gm_196 rfl is_151 rd_10 rfl rfl rfl rfl rfl (c_Model_isLeft (d := d) (x1 := x1) (x2 := p63_0) (x3 := p63_2) (by omega) (by omega) (by omega) (by omega) (by omega) (by omega) (pn.1) (pn.2.1) (fun h31 frh31 xp32 => ?_) (fun h33 frh33 xp34 xp35 => ?_))
                ·
                  have gh31 : my_fr [(10, 27), (10, 32), (10, 33), (10, 37), (73, -1), (74, -1), (75, -1), (76, -1), (77, -1), (78, -1), (79, -1), (80, -1), (81, -1), (82, -1), (83, -1), (84, -1), (85, -1), (86, -1)] h h31 := my_fr.tr gh_63_0 (frh31.mo rfl)
                  have Mw_h31 : Mw h31 := Mw_ag (my_ag.fr frh31 rfl) n_Mw_63_0
                  have Mw3_h31 : Mw3 h31 := Mw3_ag (my_ag.fr frh31 rfl) n_Mw3_63_0
                  have Rws_h31 : Rws h31 := Rws_ag (my_ag.fr frh31 rfl) n_Rws_63_0
                  show wp l rho (d + 3) 194 81 [(2, 151), (0, x1), (0, x2), (0, p16_0), (0, p27_0), (0, p63_0), (0, p63_1), (0, p63_2)] [(0, 0)] h31 Q
                  have rn := xp32
                  refine w_ifeq (t := 95) gz_194_81 rfl (fun u36 => ?_) (fun u36 => by exfalso; omega)
                  refine w_iinc (ls' := [(2, 151), (0, x1), (0, x2), (0, p16_0), (0, p27_0), (0, p63_0), (0, p63_1), (0, (p63_2 + 1))]) gz_194_95 rfl gm_194 rfl rfl rfl ⟨by omega, by omega⟩ ?_
                  refine w_goto (t := 63) gz_194_98 rfl ?_
                  have ca : ∀ j : Int, h31 177 j = h63_0 177 j := fun j => ((my_fr.at frh31 is_177 rfl).trans (rfl : h63_0 177 j = h63_0 177 j))
                  have ce37 : h31 151 27 = h63_0 151 27 := ((my_fr.at frh31 is_151 rfl).trans (rfl : h63_0 151 27 = h63_0 151 27))
                  have ce38 : h31 151 32 = p27_1 := ((my_fr.at frh31 is_151 rfl).trans c151_32_63_0)
                  have ce39 : h31 151 33 = h63_0 151 33 := ((my_fr.at frh31 is_151 rfl).trans (rfl : h63_0 151 33 = h63_0 151 33))
                  have ce40 : h31 151 37 = v1 := ((my_fr.at frh31 is_151 rfl).trans ev1.symm)
                  have a182 : ∀ j : Int, h31 182 j = h31 182 j := fun j => rfl
                  exact ih_63_0 (p63_0) (p63_1) ((p63_2 + 1)) h31 (gh31) (by omega) (by omega) (by omega) (by omega) (by omega) (by omega) (by omega) (by omega) (by omega) (((my_fr.at frh31 is_151 rfl).trans c151_32_63_0).trans (by omega)) Mw_h31 Mw3_h31 Rws_h31 (by first | (rw [show h31 151 32 = h63_0 151 32 by omega]; exact Fc_cg ca (by omega) fc_63_0) | (rw [show h31 151 32 = h27_0 151 32 by omega]; exact Fc_cg ca (by omega) fc_27_0) | (rw [show h31 151 32 = h16_0 151 32 by omega]; exact Fc_cg ca (by omega) fc_16_0) | (rw [show h31 151 32 = h 151 32 by omega]; exact Fc_cg ca (by omega) fc0) | omega) (by omega) (by omega) (by first | exact wp_27_0 | exact wk_16_0 (by omega) | (rw [ca]; exact wk_16_0 (by omega)) | (rw [ca]; omega) | (rw [ca]; have z := pn2.2.2.1; rw [cb] at z; omega) | omega) (by first | omega | (rw [ca]; omega) | omega) (by first | omega | (rw [ca]; exact ep_63_0) | omega) (by first | (intro i c a b; exfalso; omega) | (rw [show h31 151 27 = h63_0 151 27 by omega, show h31 151 37 = h63_0 151 37 by omega]; first | exact SL.1 | exact Shn_eq a182 SL.1 | exact (Shn_gone sl_63_0 su_63_0 ll_63_0 w8 (by omega) rn).1 | exact Shn_eq a182 (Shn_gone sl_63_0 su_63_0 ll_63_0 w8 (by omega) rn).1) | omega) (by first | exact sh_27_0 | exact Shn_eq a182 sh_27_0 | (rw [show h31 151 27 = h63_0 151 27 by omega, show h31 151 37 = h63_0 151 37 by omega]; first | exact SL.2 | exact Shn_eq a182 SL.2 | exact (Shn_gone sl_63_0 su_63_0 ll_63_0 w8 (by omega) rn).2 | exact Shn_eq a182 (Shn_gone sl_63_0 su_63_0 ll_63_0 w8 (by omega) rn).2) | omega) (by omega) (by omega) (by omega)
                ·
                  have gh33 : my_fr [(10, 27), (10, 32), (10, 33), (10, 37), (73, -1), (74, -1), (75, -1), (76, -1), (77, -1), (78, -1), (79, -1), (80, -1), (81, -1), (82, -1), (83, -1), (84, -1), (85, -1), (86, -1)] h h33 := my_fr.tr gh_63_0 (frh33.mo rfl)
                  have Mw_h33 : Mw h33 := Mw_ag (my_ag.fr frh33 rfl) n_Mw_63_0
                  have Mw3_h33 : Mw3 h33 := Mw3_ag (my_ag.fr frh33 rfl) n_Mw3_63_0
                  have Rws_h33 : Rws h33 := Rws_ag (my_ag.fr frh33 rfl) n_Rws_63_0
                  show wp l rho (d + 3) 194 81 [(2, 151), (0, x1), (0, x2), (0, p16_0), (0, p27_0), (0, p63_0), (0, p63_1), (0, p63_2)] [(0, 1)] h33 Q
                  have rn := xp34
                  have ro := xp35
                  refine w_ifeq (t := 95) gz_194_81 rfl (fun u41 => by exfalso; omega) (fun u41 => ?_)
                  refine w_aload_n gz_194_84 rfl ?_
                  refine w_iload gz_194_85 rfl ?_
                  refine w_iload gz_194_87 rfl ?_
                  refine w_inv (k := 1) (as := [(0, p63_1), (0, p63_2)]) (r := []) (x := 151) (ls0 := [(2, 151), (0, p63_2), (0, p63_1), (9, 0)]) gz_194_89 gm_197 rfl is_151 rd_10 rfl rfl rfl rfl rfl (c_Model_shifts2 (d := (d + 2)) (x1 := p63_2) (x2 := p63_1) (by omega) (by omega) (by omega) (by omega) (fun h42 frh42 xp43 xp44 => ?_))
                  have gh42 : my_fr [(10, 27), (10, 32), (10, 33), (10, 37), (73, -1), (74, -1), (75, -1), (76, -1), (77, -1), (78, -1), (79, -1), (80, -1), (81, -1), (82, -1), (83, -1), (84, -1), (85, -1), (86, -1)] h h42 := my_fr.tr gh33 (frh42.mo rfl)
                  have Mw_h42 : Mw h42 := Mw_ag (my_ag.fr frh42 rfl) Mw_h33
                  have Mw3_h42 : Mw3 h42 := Mw3_ag (my_ag.fr frh42 rfl) Mw3_h33
                  have Rws_h42 : Rws h42 := Rws_ag (my_ag.fr frh42 rfl) Rws_h33
                  show wp l rho (d + 3) 194 92 [(2, 151), (0, x1), (0, x2), (0, p16_0), (0, p27_0), (0, p63_0), (0, p63_1), (0, p63_2)] [] h42 Q
                  have SL := Shn_left sl_63_0 su_63_0 V19 (by omega) ll_63_0 (by omega) w8 (by omega) (by have z := rn; rw [pn.2.2.2.1] at z; exact z) ro xp43 xp44
                  refine w_iinc (ls' := [(2, 151), (0, x1), (0, x2), (0, p16_0), (0, p27_0), (0, p63_0), (0, (p63_1 + 1)), (0, p63_2)]) gz_194_92 rfl gm_194 rfl rfl rfl ⟨by omega, by omega⟩ ?_
                  refine w_iinc (ls' := [(2, 151), (0, x1), (0, x2), (0, p16_0), (0, p27_0), (0, p63_0), (0, (p63_1 + 1)), (0, (p63_2 + 1))]) gz_194_95 rfl gm_194 rfl rfl rfl ⟨by omega, by omega⟩ ?_
                  refine w_goto (t := 63) gz_194_98 rfl ?_
                  have ca : ∀ j : Int, h42 177 j = h63_0 177 j := fun j => ((my_fr.at frh42 is_177 rfl).trans ((my_fr.at frh33 is_177 rfl).trans (rfl : h63_0 177 j = h63_0 177 j)))
                  have ce45 : h42 151 27 = h63_0 151 27 := ((my_fr.at frh42 is_151 rfl).trans ((my_fr.at frh33 is_151 rfl).trans (rfl : h63_0 151 27 = h63_0 151 27)))
                  have ce46 : h42 151 32 = p27_1 := ((my_fr.at frh42 is_151 rfl).trans ((my_fr.at frh33 is_151 rfl).trans c151_32_63_0))
                  have ce47 : h42 151 33 = h63_0 151 33 := ((my_fr.at frh42 is_151 rfl).trans ((my_fr.at frh33 is_151 rfl).trans (rfl : h63_0 151 33 = h63_0 151 33)))
                  have ce48 : h42 151 37 = v1 := ((my_fr.at frh42 is_151 rfl).trans ((my_fr.at frh33 is_151 rfl).trans ev1.symm))
                  have a182 : ∀ j : Int, h42 182 j = h42 182 j := fun j => rfl
                  exact ih_63_0 (p63_0) ((p63_1 + 1)) ((p63_2 + 1)) h42 (gh42) (by omega) (by omega) (by omega) (by omega) (by omega) (by omega) (by omega) (by omega) (by omega) (((my_fr.at frh42 is_151 rfl).trans ((my_fr.at frh33 is_151 rfl).trans c151_32_63_0)).trans (by omega)) Mw_h42 Mw3_h42 Rws_h42 (by first | (rw [show h42 151 32 = h63_0 151 32 by omega]; exact Fc_cg ca (by omega) fc_63_0) | (rw [show h42 151 32 = h27_0 151 32 by omega]; exact Fc_cg ca (by omega) fc_27_0) | (rw [show h42 151 32 = h16_0 151 32 by omega]; exact Fc_cg ca (by omega) fc_16_0) | (rw [show h42 151 32 = h 151 32 by omega]; exact Fc_cg ca (by omega) fc0) | omega) (by omega) (by omega) (by first | exact wp_27_0 | exact wk_16_0 (by omega) | (rw [ca]; exact wk_16_0 (by omega)) | (rw [ca]; omega) | (rw [ca]; have z := pn2.2.2.1; rw [cb] at z; omega) | omega) (by first | omega | (rw [ca]; omega) | omega) (by first | omega | (rw [ca]; exact ep_63_0) | omega) (by first | (intro i c a b; exfalso; omega) | (rw [show h42 151 27 = h63_0 151 27 by omega, show h42 151 37 = h63_0 151 37 by omega]; first | exact SL.1 | exact Shn_eq a182 SL.1 | exact (Shn_gone sl_63_0 su_63_0 ll_63_0 w8 (by omega) rn).1 | exact Shn_eq a182 (Shn_gone sl_63_0 su_63_0 ll_63_0 w8 (by omega) rn).1) | omega) (by first | exact sh_27_0 | exact Shn_eq a182 sh_27_0 | (rw [show h42 151 27 = h63_0 151 27 by omega, show h42 151 37 = h63_0 151 37 by omega]; first | exact SL.2 | exact Shn_eq a182 SL.2 | exact (Shn_gone sl_63_0 su_63_0 ll_63_0 w8 (by omega) rn).2 | exact Shn_eq a182 (Shn_gone sl_63_0 su_63_0 ll_63_0 w8 (by omega) rn).2) | omega) (by omega) (by omega) (by omega)
          refine w_iload gz_194_27 rfl ?_
          refine w_aload_n gz_194_29 rfl ?_
          refine w_getX (v := 167) gz_194_30 is_151 rd_10 rfl (by decide) rfl ?_
          refine w_aload_n gz_194_33 rfl ?_
          refine w_getX (v := 177) gz_194_34 is_151 rd_10 rfl (by decide) rfl ?_
          refine w_iload_n gz_194_37 rfl ?_
          refine w_iald gz_194_38 is_177 rd_76 (by omega) (by omega) (fun v51 ev51 pv51 qv51 => ?_)
          have e32 : v51 = h27_0 177 p16_0 := by omega
          have f32 := f167 v51
          refine w_iald gz_194_39 is_167 rd_66 (by omega) (by omega) (fun v52 ev52 pv52 qv52 => ?_)
          have e33b : v52 = h 167 (h27_0 177 p16_0) := by rw [← e32]; omega
          refine w_icge (t := 136) gz_194_40 rfl (fun u53 => ?_) (fun u53 => ?_)
          ·
            have e57 : h 167 (h27_0 177 p16_0) = p27_0 := by omega
            refine w_iinc (ls' := [(2, 151), (0, x1), (0, x2), (0, (p16_0 + 1)), (0, p27_0), (9, 0), (9, 0), (9, 0)]) gz_194_136 rfl gm_194 rfl rfl rfl ⟨by omega, by omega⟩ ?_
            refine w_goto (t := 16) gz_194_139 rfl ?_
            have ca : ∀ j : Int, h27_0 177 j = h27_0 177 j := fun _ => rfl
            have ce54 : h27_0 151 32 = p27_1 := c151_32_27_0
            have a182 : ∀ j : Int, h27_0 182 j = h27_0 182 j := fun _ => rfl
            refine w_weak (ls' := [(2, 151), (0, x1), (0, x2), (0, (p16_0 + 1)), (9, 0), (9, 0), (9, 0), (9, 0)]) (wk_e (wk_e (wk_e (wk_e (wk_9 (wk_9 (wk_9 (wk_9 wk_n)))))))) ?_
            exact ih_16_0 ((p16_0 + 1)) h27_0 (gh_27_0) (by omega) (by omega) n_Mw_27_0 n_Mw3_27_0 n_Rws_27_0 (by first | (rw [show h27_0 151 32 = h63_0 151 32 by omega]; exact Fc_cg ca (by omega) fc_63_0) | (rw [show h27_0 151 32 = h27_0 151 32 by omega]; exact Fc_cg ca (by omega) fc_27_0) | (rw [show h27_0 151 32 = h16_0 151 32 by omega]; exact Fc_cg ca (by omega) fc_16_0) | (rw [show h27_0 151 32 = h 151 32 by omega]; exact Fc_cg ca (by omega) fc0) | omega) (by omega) (by omega) (by first | (intro q; exfalso; omega) | (intro q; rw [ca, Fc_first (W := W) fc0 (by omega)]; omega) | (intro q; rw [ca, Fc_next hW fc_27_0 (by omega) (by omega), e57]; omega) | omega) (by first | exact Shn_V xb (by omega) (by omega) (by omega) (by have z := (vb_bd (m := h27_0 151 37) (by omega) (by omega)).1; omega) | exact sh_16_0 | exact sh_27_0 | exact Shn_V (Shn_eq a182 xs) (by omega) (by omega) (by have z := pn2.2.2.2.2.2.2 (by omega); omega) (by rw [show h27_0 151 37 = xsm by omega]; exact Int.le_refl _) | exact Shn_V (Shn_eq a182 sl_63_0) (by omega) (by omega) (by have z := pn2.2.2.2.2.2.1 (by omega); rw [show wdx = h63_0 151 27 by omega] at z; omega) (vb_mono (m := h63_0 151 37) (n := h27_0 151 37) (by omega) (by omega) (by omega)).1 | omega) (by omega)
          ·
            refine w_bipush gz_194_43 (by decide) ?_
            refine w_aload_n gz_194_45 rfl ?_
            refine w_getX (v := 177) gz_194_46 is_151 rd_10 rfl (by decide) rfl ?_
            refine w_iload_n gz_194_49 rfl ?_
            refine w_iald gz_194_50 is_177 rd_76 (by omega) (by omega) (fun v56 ev56 pv56 qv56 => ?_)
            have zv56 := ev56.trans ev51.symm
            refine w_imul gz_194_51 ⟨by omega, by omega⟩ ?_
            refine w_iload gz_194_52 rfl ?_
            refine w_iadd gz_194_54 ⟨by omega, by omega⟩ ?_
            refine w_istore (ls' := [(2, 151), (0, x1), (0, x2), (0, p16_0), (0, p27_0), (0, ((6 * v56) + p27_0)), (9, 0), (9, 0)]) gz_194_55 gm_194 rfl rfl rfl ?_
            refine w_iconst gz_194_57 (by decide) ?_
            refine w_istore (ls' := [(2, 151), (0, x1), (0, x2), (0, p16_0), (0, p27_0), (0, ((6 * v56) + p27_0)), (0, 0), (9, 0)]) gz_194_58 gm_194 rfl rfl rfl ?_
            refine w_iconst gz_194_60 (by decide) ?_
            refine w_istore (ls' := [(2, 151), (0, x1), (0, x2), (0, p16_0), (0, p27_0), (0, ((6 * v56) + p27_0)), (0, 0), (0, 0)]) gz_194_61 gm_194 rfl rfl rfl ?_
            have ca : ∀ j : Int, h27_0 177 j = h27_0 177 j := fun _ => rfl
            have ce57 : h27_0 151 32 = p27_1 := c151_32_27_0
            have a182 : ∀ j : Int, h27_0 182 j = h27_0 182 j := fun _ => rfl
            exact J63_0 11 (((6 * v56) + p27_0)) (0) (0) h27_0 (gh_27_0) (by omega) (by omega) (by omega) (by omega) (by omega) (by omega) (by omega) (by omega) (by omega) (c151_32_27_0.trans (by omega)) n_Mw_27_0 n_Mw3_27_0 n_Rws_27_0 (by first | (rw [show h27_0 151 32 = h63_0 151 32 by omega]; exact Fc_cg ca (by omega) fc_63_0) | (rw [show h27_0 151 32 = h27_0 151 32 by omega]; exact Fc_cg ca (by omega) fc_27_0) | (rw [show h27_0 151 32 = h16_0 151 32 by omega]; exact Fc_cg ca (by omega) fc_16_0) | (rw [show h27_0 151 32 = h 151 32 by omega]; exact Fc_cg ca (by omega) fc0) | omega) (by omega) (by omega) (by first | exact wp_27_0 | exact wk_16_0 (by omega) | (rw [ca]; exact wk_16_0 (by omega)) | (rw [ca]; omega) | (rw [ca]; have z := pn2.2.2.1; rw [cb] at z; omega) | omega) (by first | omega | (rw [ca]; omega) | omega) (by first | omega | (rw [ca]; exact ep_63_0) | omega) (by first | (intro i c a b; exfalso; omega) | (rw [show h27_0 151 27 = h63_0 151 27 by omega, show h27_0 151 37 = h63_0 151 37 by omega]; first | exact SL.1 | exact Shn_eq a182 SL.1 | exact (Shn_gone sl_63_0 su_63_0 ll_63_0 w8 (by omega) rn).1 | exact Shn_eq a182 (Shn_gone sl_63_0 su_63_0 ll_63_0 w8 (by omega) rn).1) | omega) (by first | exact sh_27_0 | exact Shn_eq a182 sh_27_0 | (rw [show h27_0 151 27 = h63_0 151 27 by omega, show h27_0 151 37 = h63_0 151 37 by omega]; first | exact SL.2 | exact Shn_eq a182 SL.2 | exact (Shn_gone sl_63_0 su_63_0 ll_63_0 w8 (by omega) rn).2 | exact Shn_eq a182 (Shn_gone sl_63_0 su_63_0 ll_63_0 w8 (by omega) rn).2) | omega) (by omega) (by omega) (by omega)
      refine w_iload_n gz_194_16 rfl ?_
      refine w_aload_n gz_194_17 rfl ?_
      refine v_getI (j := 32) gz_194_18 rfl is_151 rd_10 rfl (fun v58 ev58 pv58 qv58 => ?_)
      refine w_icge (t := 142) gz_194_21 rfl (fun u59 => ?_) (fun u59 => ?_)
      ·
        refine w_aload_n gz_194_142 rfl ?_
        refine w_inv (k := 2) (as := []) (r := []) (x := 151) (ls0 := [(2, 151), (9, 0), (9, 0)]) gz_194_143 gm_199 rfl is_151 rd_10 rfl rfl rfl rfl rfl (c_Model_sortShown (d := (d + 1))   (fun h60 frh60 => ?_))
        have gh60 : my_fr [(10, 27), (10, 32), (10, 33), (10, 37), (73, -1), (74, -1), (75, -1), (76, -1), (77, -1), (78, -1), (79, -1), (80, -1), (81, -1), (82, -1), (83, -1), (84, -1), (85, -1), (86, -1)] h h60 := my_fr.tr gh_16_0 (frh60.mo rfl)
        have Mw_h60 : Mw h60 := Mw_ag (my_ag.fr frh60 rfl) n_Mw_16_0
        have Mw3_h60 : Mw3 h60 := Mw3_ag (my_ag.fr frh60 rfl) n_Mw3_16_0
        have Rws_h60 : Rws h60 := Rws_ag (my_ag.fr frh60 rfl) n_Rws_16_0
        show wp l rho (d + 3) 194 146 [(2, 151), (0, x1), (0, x2), (0, p16_0), (9, 0), (9, 0), (9, 0), (9, 0)] [] h60 Q
        exact w_vret gz_194_146 gm_194 (k0 h60 (gh60))
      ·
        have qr0 := fc_16_0.2.2.2.2.2 p16_0 (by omega) (by omega)
        refine v_knowA (x := 167) is_167 rd_66 (fun kP => ?_)
        have kq := kP (h16_0 177 p16_0) (by omega) (by omega)
        have k7 : h16_0 167 (h16_0 177 p16_0) = h 167 (h16_0 177 p16_0) := my_fr.at gh_16_0 is_167 rfl
        refine w_iconst gz_194_24 (by decide) ?_
        refine w_istore (ls' := [(2, 151), (0, x1), (0, x2), (0, p16_0), (0, 0), (9, 0), (9, 0), (9, 0)]) gz_194_25 gm_194 rfl rfl rfl ?_
        have ca : ∀ j : Int, h16_0 177 j = h16_0 177 j := fun _ => rfl
        have ce61 : h16_0 151 32 = v58 := ev58.symm
        have a182 : ∀ j : Int, h16_0 182 j = h16_0 182 j := fun _ => rfl
        exact J27_0 7 (0) (v58) h16_0 (gh_16_0) (by omega) (by omega) (by omega) (by omega) (by omega) (by omega) (ev58.symm.trans (by omega)) n_Mw_16_0 n_Mw3_16_0 n_Rws_16_0 (by first | (rw [show h16_0 151 32 = h63_0 151 32 by omega]; exact Fc_cg ca (by omega) fc_63_0) | (rw [show h16_0 151 32 = h27_0 151 32 by omega]; exact Fc_cg ca (by omega) fc_27_0) | (rw [show h16_0 151 32 = h16_0 151 32 by omega]; exact Fc_cg ca (by omega) fc_16_0) | (rw [show h16_0 151 32 = h 151 32 by omega]; exact Fc_cg ca (by omega) fc0) | omega) (by omega) (by omega) (by first | exact wp_27_0 | exact wk_16_0 (by omega) | (rw [ca]; exact wk_16_0 (by omega)) | (rw [ca]; omega) | (rw [ca]; have z := pn2.2.2.1; rw [cb] at z; omega) | omega) (by first | omega | (rw [ca]; omega) | omega) (by first | exact Shn_V xb (by omega) (by omega) (by omega) (by have z := (vb_bd (m := h16_0 151 37) (by omega) (by omega)).1; omega) | exact sh_16_0 | exact sh_27_0 | exact Shn_V (Shn_eq a182 xs) (by omega) (by omega) (by have z := pn2.2.2.2.2.2.2 (by omega); omega) (by rw [show h16_0 151 37 = xsm by omega]; exact Int.le_refl _) | exact Shn_V (Shn_eq a182 sl_63_0) (by omega) (by omega) (by have z := pn2.2.2.2.2.2.1 (by omega); rw [show wdx = h63_0 151 27 by omega] at z; omega) (vb_mono (m := h63_0 151 37) (n := h16_0 151 37) (by omega) (by omega) (by omega)).1 | omega) (by omega)
  refine w_aload_n gz_194_0 rfl ?_
  refine w_iload_n gz_194_1 rfl ?_
  refine w_inv (k := 2) (as := [(0, x2)]) (r := []) (x := 151) (ls0 := [(2, 151), (0, x2), (9, 0), (9, 0)]) gz_194_2 gm_180 rfl is_151 rd_10 rfl rfl rfl rfl rfl (c_Model_findChain (d := (d + 2)) (x1 := x2) (by omega) (by omega) n_Mw (by first | assumption | omega | (subst_vars; omega) | omega) (fun h62 frh62 xp63 xp64 xp65 => ?_))
  have gh62 : my_fr [(10, 27), (10, 32), (10, 33), (10, 37), (73, -1), (74, -1), (75, -1), (76, -1), (77, -1), (78, -1), (79, -1), (80, -1), (81, -1), (82, -1), (83, -1), (84, -1), (85, -1), (86, -1)] h h62 := my_fr.tr my_fr.rf (frh62.mo rfl)
  have Mw_h62 : Mw h62 := Mw_ag (my_ag.fr frh62 rfl) n_Mw
  have Mw3_h62 : Mw3 h62 := Mw3_ag (my_ag.fr frh62 rfl) n_Mw3
  have Rws_h62 : Rws h62 := Rws_ag (my_ag.fr frh62 rfl) n_Rws
  show wp l rho (d + 3) 194 5 [(2, 151), (0, x1), (0, x2), (9, 0), (9, 0), (9, 0), (9, 0), (9, 0)] [] h62 Q
  have fc0 := xp63
  have fc1 := xp64
  have fc2 := xp65
  have b157 : h62 157 (h62 151 33) = h 157 (h62 151 33) := my_fr.at gh62 is_157 rfl
  refine w_aload_n gz_194_5 rfl ?_
  refine w_inv (k := 1) (as := []) (r := []) (x := 151) (ls0 := [(2, 151), (9, 0)]) gz_194_6 gm_181 rfl is_151 rd_10 rfl rfl rfl rfl rfl (c_Model_beginsColumns3 (d := (d + 2))   (fun h66 frh66 w67 w68 xp69 xp70 => ?_))
  have gh66 : my_fr [(10, 27), (10, 32), (10, 33), (10, 37), (73, -1), (74, -1), (75, -1), (76, -1), (77, -1), (78, -1), (79, -1), (80, -1), (81, -1), (82, -1), (83, -1), (84, -1), (85, -1), (86, -1)] h h66 := my_fr.tr gh62 (frh66.mo rfl)
  have Mw_h66 : Mw h66 := Mw_ag (my_ag.fr frh66 rfl) Mw_h62
  have Mw3_h66 : Mw3 h66 := Mw3_ag (my_ag.fr frh66 rfl) Mw3_h62
  have Rws_h66 : Rws h66 := Rws_ag (my_ag.fr frh66 rfl) Rws_h62
  show wp l rho (d + 3) 194 9 [(2, 151), (0, x1), (0, x2), (9, 0), (9, 0), (9, 0), (9, 0), (9, 0)] [] h66 Q
  have x6 := xp69
  have e33 : h66 151 33 = h62 151 33 := my_fr.at frh66 is_151 rfl
  have e57a : ∀ j : Int, h66 157 j = h62 157 j := fun j => my_fr.at frh66 is_157 rfl
  have e27 : h66 151 27 = h66 157 (h66 151 33) := by rw [e57a, e33]; exact x6
  refine w_aload_n gz_194_9 rfl ?_
  refine w_iload_n gz_194_10 rfl ?_
  refine w_inv (k := 2) (as := [(0, x1)]) (r := []) (x := 151) (ls0 := [(2, 151), (0, x1), (9, 0), (9, 0)]) gz_194_11 gm_195 rfl is_151 rd_10 rfl rfl rfl rfl rfl (c_Model_begins2 (d := d) (x1 := x1) (by omega) (by omega) Rws_h66 (fun h71 frh71 xp72 => ?_))
  have gh71 : my_fr [(10, 27), (10, 32), (10, 33), (10, 37), (73, -1), (74, -1), (75, -1), (76, -1), (77, -1), (78, -1), (79, -1), (80, -1), (81, -1), (82, -1), (83, -1), (84, -1), (85, -1), (86, -1)] h h71 := my_fr.tr gh66 (frh71.mo rfl)
  have Mw_h71 : Mw h71 := Mw_ag (my_ag.fr frh71 rfl) Mw_h66
  have Mw3_h71 : Mw3 h71 := Mw3_ag (my_ag.fr frh71 rfl) Mw3_h66
  have Rws_h71 : Rws h71 := Rws_ag (my_ag.fr frh71 rfl) Rws_h66
  show wp l rho (d + 3) 194 14 [(2, 151), (0, x1), (0, x2), (9, 0), (9, 0), (9, 0), (9, 0), (9, 0)] [] h71 Q
  have xb := xp72
  refine w_iconst gz_194_14 (by decide) ?_
  refine w_istore_n (ls' := [(2, 151), (0, x1), (0, x2), (0, 0), (9, 0), (9, 0), (9, 0), (9, 0)]) gz_194_15 gm_194 rfl rfl rfl ?_
  have ca : ∀ j : Int, h71 177 j = h62 177 j := fun j => ((my_fr.at frh71 is_177 rfl).trans ((my_fr.at frh66 is_177 rfl).trans (rfl : h62 177 j = h62 177 j)))
  have ce73 : h71 151 27 = (h66 151 27) := ((my_fr.at frh71 is_151 rfl).trans (rfl : h66 151 27 = h66 151 27))
  have ce74 : h71 151 32 = h62 151 32 := ((my_fr.at frh71 is_151 rfl).trans ((my_fr.at frh66 is_151 rfl).trans (rfl : h62 151 32 = h62 151 32)))
  have ce75 : h71 151 33 = h62 151 33 := ((my_fr.at frh71 is_151 rfl).trans ((my_fr.at frh66 is_151 rfl).trans (rfl : h62 151 33 = h62 151 33)))
  have a182 : ∀ j : Int, h71 182 j = h71 182 j := fun j => rfl
  exact J16_0 7 (0) h71 (gh71) (by omega) (by omega) Mw_h71 Mw3_h71 Rws_h71 (by first | (rw [show h71 151 32 = h63_0 151 32 by omega]; exact Fc_cg ca (by omega) fc_63_0) | (rw [show h71 151 32 = h27_0 151 32 by omega]; exact Fc_cg ca (by omega) fc_27_0) | (rw [show h71 151 32 = h16_0 151 32 by omega]; exact Fc_cg ca (by omega) fc_16_0) | (rw [show h71 151 32 = h62 151 32 by omega]; exact Fc_cg ca (by omega) fc0) | omega) (by omega) (by omega) (by first | (intro q; exfalso; omega) | (intro q; rw [ca, Fc_first (W := W) fc0 (by omega)]; omega) | (intro q; rw [ca, Fc_next hW fc_27_0 (by omega) (by omega), e57]; omega) | omega) (by first | exact Shn_V xb (by omega) (by omega) (by omega) (by have z := (vb_bd (m := h71 151 37) (by omega) (by omega)).1; omega) | exact sh_16_0 | exact sh_27_0 | exact Shn_V (Shn_eq a182 xs) (by omega) (by omega) (by have z := pn2.2.2.2.2.2.2 (by omega); omega) (by rw [show h71 151 37 = xsm by omega]; exact Int.le_refl _) | exact Shn_V (Shn_eq a182 sl_63_0) (by omega) (by omega) (by have z := pn2.2.2.2.2.2.1 (by omega); rw [show wdx = h63_0 151 27 by omega] at z; omega) (vb_mono (m := h63_0 151 37) (n := h71 151 37) (by omega) (by omega) (by omega)).1 | omega) (by omega)
theorem c_Model_window {l : Launch} {rho : Nat → Int32} {d : Nat} {h : my_H} {Q : my_H → my_V → Prop} {x1 : Int} (n_Mw : Mw h) (n_Mw3 : Mw3 h) (n_Wrd : Wrd h) (k0 : ∀ (h' : my_H), my_fr [(10, 0), (10, 2), (10, 3), (10, 7), (10, 8), (10, 27), (10, 32), (10, 33), (52, -1), (53, -1), (54, -1), (63, -1), (64, -1), (65, -1), (66, -1), (67, -1), (68, -1), (69, -1), (70, -1), (71, -1), (72, -1), (73, -1), (74, -1), (75, -1), (76, -1), (77, -1), (78, -1), (79, -1)] h h' → h' 151 0 = 0 → h' 151 2 = 0 → Mw h' → Mw3 h' → Wrd h' → Q h' (0, (-1))) (k1 : ∀ (h' : my_H) (y : Int), my_fr [(10, 0), (10, 2), (10, 3), (10, 7), (10, 8), (10, 27), (10, 32), (10, 33), (52, -1), (53, -1), (54, -1), (63, -1), (64, -1), (65, -1), (66, -1), (67, -1), (68, -1), (69, -1), (70, -1), (71, -1), (72, -1), (73, -1), (74, -1), (75, -1), (76, -1), (77, -1), (78, -1), (79, -1)] h h' → 1 ≤ y → y ≤ 16005 → 0 ≤ x1 → x1 ≤ 5 → h' 151 0 = 0 → h' 151 2 = 0 → 1 ≤ h' 151 8 → h' 151 8 ≤ 16005 → Mw h' → Mw3 h' → Wrd h' → Q h' (0, y)) (k2 : ∀ (h' : my_H), my_fr [(10, 0), (10, 2), (10, 3), (10, 7), (10, 8), (10, 27), (10, 32), (10, 33), (52, -1), (53, -1), (54, -1), (63, -1), (64, -1), (65, -1), (66, -1), (67, -1), (68, -1), (69, -1), (70, -1), (71, -1), (72, -1), (73, -1), (74, -1), (75, -1), (76, -1), (77, -1), (78, -1), (79, -1)] h h' → 0 ≤ x1 → x1 ≤ 5 → h' 151 0 = 0 → h' 151 2 = 0 → h' 151 8 = 0 → Mw h' → Mw3 h' → Wrd h' → Q h' (0, 0)) : wp l rho (d + 5) 168 0 [(2, 151), (0, x1), (9, 0), (9, 0)] [] h Q := by
  have J119_0 : ∀ (n : Nat) (p119_0 : Int) (h119_0 : my_H), my_fr [(10, 0), (10, 2), (10, 3), (10, 7), (10, 8), (10, 27), (10, 32), (10, 33), (52, -1), (53, -1), (54, -1), (63, -1), (64, -1), (65, -1), (66, -1), (67, -1), (68, -1), (69, -1), (70, -1), (71, -1), (72, -1), (73, -1), (74, -1), (75, -1), (76, -1), (77, -1), (78, -1), (79, -1)] h h119_0 → 0 ≤ x1 → x1 ≤ 5 → 0 ≤ p119_0 → p119_0 ≤ 16005 → h119_0 151 0 = 0 → h119_0 151 2 = 0 → h119_0 151 8 = p119_0 → Mw h119_0 → Mw3 h119_0 → Wrd h119_0 → (h119_0 151 8 = 0 → Mq h119_0 x1) → (h119_0 151 8 = 0 → ∀ k : Int, 0 ≤ k → k ≤ 5 → h119_0 164 k = 1 → h119_0 165 k = 0 → h119_0 166 k ≠ x1) → Tok h119_0 → h119_0 151 7 ≤ 1001 → 17007 - h119_0 151 7 - h119_0 151 8 ≤ (n : Int) → wp l rho (d + 5) 168 119 [(2, 151), (0, x1), (0, 0), (0, 4)] [] h119_0 Q := by
    intro n
    induction n with
    | zero => intro p119_0 h119_0 gh_119_0 q0_119_0 q1_119_0 q2_119_0 q3_119_0 c151_0_119_0 c151_2_119_0 c151_8_119_0 n_Mw_119_0 n_Mw3_119_0 n_Wrd_119_0 mq_119_0 s6_119_0 tk_119_0 a1_119_0 hm_119_0; exfalso; omega
    | succ n ih_119_0 =>
      intro p119_0 h119_0 gh_119_0 q0_119_0 q1_119_0 q2_119_0 q3_119_0 c151_0_119_0 c151_2_119_0 c151_8_119_0 n_Mw_119_0 n_Mw3_119_0 n_Wrd_119_0 mq_119_0 s6_119_0 tk_119_0 a1_119_0 hm_119_0
      have Tok_h119_0t1 : Tok h119_0 := tk_119_0
      refine w_aload_n gz_168_119 rfl ?_
      refine v_getI (j := 8) gz_168_120 rfl is_151 rd_10 rfl (fun v2 ev2 pv2 qv2 => ?_)
      have zv2 := ev2.trans c151_8_119_0
      refine w_ifne (t := 145) gz_168_123 rfl (fun u3 => ?_) (fun u3 => ?_)
      ·
        refine w_aload_n gz_168_145 rfl ?_
        refine v_getI (j := 8) gz_168_146 rfl is_151 rd_10 rfl (fun v4 ev4 pv4 qv4 => ?_)
        have zv4 := ev4.trans ev2.symm
        refine w_ifne (t := 157) gz_168_149 rfl (fun u5 => ?_) (fun u5 => by exfalso; omega)
        refine w_aload_n gz_168_157 rfl ?_
        refine v_getI (j := 8) gz_168_158 rfl is_151 rd_10 rfl (fun v6 ev6 pv6 qv6 => ?_)
        have zv6 := ev6.trans ev4.symm
        have c7 := c151_0_119_0
        have c8 := c151_2_119_0
        have c9 := ev6.symm
        exact w_iret gz_168_161 gm_168 (k1 h119_0 (v6) (gh_119_0) (by omega) (by omega) (by omega) (by omega) (by omega) (by omega) (by omega) (by omega) n_Mw_119_0 n_Mw3_119_0 n_Wrd_119_0)
      ·
        refine w_aload_n gz_168_126 rfl ?_
        refine w_getX (v := 153) gz_168_127 is_151 rd_10 rfl (by decide) rfl ?_
        refine w_aload_n gz_168_130 rfl ?_
        refine v_getI (j := 7) gz_168_131 rfl is_151 rd_10 rfl (fun v11 ev11 pv11 qv11 => ?_)
        refine w_iald gz_168_134 is_153 rd_52 (by omega) (by omega) (fun v12 ev12 pv12 qv12 => ?_)
        refine w_ifeq (t := 145) gz_168_135 rfl (fun u13 => ?_) (fun u13 => ?_)
        ·
          refine w_aload_n gz_168_145 rfl ?_
          refine v_getI (j := 8) gz_168_146 rfl is_151 rd_10 rfl (fun v14 ev14 pv14 qv14 => ?_)
          have zv14 := ev14.trans ev2.symm
          refine w_ifne (t := 157) gz_168_149 rfl (fun u15 => by exfalso; omega) (fun u15 => ?_)
          refine w_aload_n gz_168_152 rfl ?_
          refine w_iload_n gz_168_153 rfl ?_
          refine w_inv (k := 4) (as := [(0, x1)]) (r := []) (x := 151) (ls0 := [(2, 151), (0, x1), (9, 0), (9, 0), (9, 0), (9, 0)]) gz_168_154 gm_191 rfl is_151 rd_10 rfl rfl rfl rfl rfl (c_Model_keeps2_f0 (d := (d + 4)) (x1 := x1) (by omega) (by omega) (ev14.symm.trans (by omega)) (mq_119_0 (by omega)) (s6_119_0 (by omega)) (fun h16 frh16 w17 Mw3_h16t18 => ?_))
          have gh16 : my_fr [(10, 0), (10, 2), (10, 3), (10, 7), (10, 8), (10, 27), (10, 32), (10, 33), (52, -1), (53, -1), (54, -1), (63, -1), (64, -1), (65, -1), (66, -1), (67, -1), (68, -1), (69, -1), (70, -1), (71, -1), (72, -1), (73, -1), (74, -1), (75, -1), (76, -1), (77, -1), (78, -1), (79, -1)] h h16 := my_fr.tr gh_119_0 (frh16.mo rfl)
          have Wrd_h16 : Wrd h16 := Wrd_ag (my_ag.fr frh16 rfl) n_Wrd_119_0
          have Tok_h16 : Tok h16 := Tok_ag (my_ag.fr frh16 rfl) Tok_h119_0t1
          show wp l rho (d + 5) 168 157 [(2, 151), (0, x1), (0, 0), (0, 4)] [] h16 Q
          have Mw_h16t19 : Mw h16 := (Mw3_h16t18).mw
          refine w_aload_n gz_168_157 rfl ?_
          refine v_getI (j := 8) gz_168_158 rfl is_151 rd_10 rfl (fun v20 ev20 pv20 qv20 => ?_)
          have zv20 := ev20.trans ((my_fr.at frh16 is_151 rfl).trans ev14.symm)
          have c21 := ((my_fr.at frh16 is_151 rfl).trans c151_0_119_0)
          have c22 := ((my_fr.at frh16 is_151 rfl).trans c151_2_119_0)
          have c23 := ev20.symm
          rw [show (v20 : Int) = 0 from by omega]
          exact w_iret gz_168_161 gm_168 (k2 h16 (gh16) (by omega) (by omega) (by omega) (by omega) (by omega) Mw_h16t19 Mw3_h16t18 Wrd_h16)
        ·
          refine w_aload_n gz_168_138 rfl ?_
          have Mq_h119_0t24 : Mq h119_0 x1 := mq_119_0 (by omega)
          have ce25 : h119_0 151 7 = v11 := ev11.symm
          refine w_inv (k := 7) (as := []) (r := []) (x := 151) (ls0 := [(2, 151), (9, 0), (9, 0), (9, 0), (9, 0), (9, 0), (9, 0), (9, 0)]) gz_168_139 gm_185 rfl is_151 rd_10 rfl rfl rfl rfl rfl (c_Model_readPane_f0 (d := d)  (wv := x1) (ev2.symm.trans (by omega)) (by first | assumption | omega) (by first | assumption | omega) Tok_h119_0t1 Mq_h119_0t24 n_Wrd_119_0 (fun h26 frh26 w27 w28 xp29 Tok_h26t30 Mq_h26t31 Wrd_h26t32 => ?_) (fun h33 frh33 w34 w35 w36 xp37 Tok_h33t38 Mq_h33t39 Wrd_h33t40 => ?_))
          ·
            have gh26 : my_fr [(10, 0), (10, 2), (10, 3), (10, 7), (10, 8), (10, 27), (10, 32), (10, 33), (52, -1), (53, -1), (54, -1), (63, -1), (64, -1), (65, -1), (66, -1), (67, -1), (68, -1), (69, -1), (70, -1), (71, -1), (72, -1), (73, -1), (74, -1), (75, -1), (76, -1), (77, -1), (78, -1), (79, -1)] h h26 := my_fr.tr gh_119_0 (frh26.mo rfl)
            have Wrd_h26 : Wrd h26 := Wrd_ag (my_ag.fr frh26 rfl) n_Wrd_119_0
            show wp l rho (d + 5) 168 142 [(2, 151), (0, x1), (0, 0), (0, 4)] [] h26 Q
            have Mw3_h26t41 : Mw3 h26 := (Mq_h26t31).mw3
            have Mw_h26t42 : Mw h26 := (Mq_h26t31).mw3.mw
            refine w_goto (t := 119) gz_168_142 rfl ?_
            have a164 : ∀ j : Int, h26 164 j = h119_0 164 j := fun j => ((my_fr.at frh26 is_164 rfl).trans (rfl : h119_0 164 j = h119_0 164 j))
            have a165 : ∀ j : Int, h26 165 j = h119_0 165 j := fun j => ((my_fr.at frh26 is_165 rfl).trans (rfl : h119_0 165 j = h119_0 165 j))
            have a166 : ∀ j : Int, h26 166 j = h119_0 166 j := fun j => ((my_fr.at frh26 is_166 rfl).trans (rfl : h119_0 166 j = h119_0 166 j))
            have ce43 : h26 151 8 = (h26 151 8) := (rfl : h26 151 8 = h26 151 8)
            exact ih_119_0 ((h26 151 8)) h26 (gh26) (by omega) (by omega) (by omega) (by omega) (((my_fr.at frh26 is_151 rfl).trans c151_0_119_0).trans (by omega)) (((my_fr.at frh26 is_151 rfl).trans c151_2_119_0).trans (by omega)) ((rfl : h26 151 8 = h26 151 8).trans (by omega)) Mw_h26t42 Mw3_h26t41 Wrd_h26t32 (by first | (intro _; exact Mq_h26t31) | (intro q; exfalso; omega) | (intro _; assumption) | omega) (by first | (intro q; exfalso; omega) | (intro _ k a b c e; have z := s56 k b; rw [z.1] at e; rw [z.2]; exact u9_93_0 k a b (by rw [← a164]; exact c) e) | (intro _ k a b c e; rw [a164] at c; rw [a165] at e; rw [a166]; exact s6_119_0 (by omega) k a b c e) | omega) (Tok_h26t30) (by have q := Tok_at Tok_h26t30; omega) (by omega)
          ·
            have gh33 : my_fr [(10, 0), (10, 2), (10, 3), (10, 7), (10, 8), (10, 27), (10, 32), (10, 33), (52, -1), (53, -1), (54, -1), (63, -1), (64, -1), (65, -1), (66, -1), (67, -1), (68, -1), (69, -1), (70, -1), (71, -1), (72, -1), (73, -1), (74, -1), (75, -1), (76, -1), (77, -1), (78, -1), (79, -1)] h h33 := my_fr.tr gh_119_0 (frh33.mo rfl)
            have Wrd_h33 : Wrd h33 := Wrd_ag (my_ag.fr frh33 rfl) n_Wrd_119_0
            show wp l rho (d + 5) 168 142 [(2, 151), (0, x1), (0, 0), (0, 4)] [] h33 Q
            have Mw3_h33t44 : Mw3 h33 := (Mq_h33t39).mw3
            have Mw_h33t45 : Mw h33 := (Mq_h33t39).mw3.mw
            refine w_goto (t := 119) gz_168_142 rfl ?_
            have a164 : ∀ j : Int, h33 164 j = h119_0 164 j := fun j => ((my_fr.at frh33 is_164 rfl).trans (rfl : h119_0 164 j = h119_0 164 j))
            have a165 : ∀ j : Int, h33 165 j = h119_0 165 j := fun j => ((my_fr.at frh33 is_165 rfl).trans (rfl : h119_0 165 j = h119_0 165 j))
            have a166 : ∀ j : Int, h33 166 j = h119_0 166 j := fun j => ((my_fr.at frh33 is_166 rfl).trans (rfl : h119_0 166 j = h119_0 166 j))
            have ce46 : h33 151 7 = (h33 151 7) := (rfl : h33 151 7 = h33 151 7)
            have ce47 : h33 151 8 = 0 := w36
            exact ih_119_0 (0) h33 (gh33) (by omega) (by omega) (by omega) (by omega) (((my_fr.at frh33 is_151 rfl).trans c151_0_119_0).trans (by omega)) (((my_fr.at frh33 is_151 rfl).trans c151_2_119_0).trans (by omega)) (w36.trans (by omega)) Mw_h33t45 Mw3_h33t44 Wrd_h33t40 (by first | (intro _; exact Mq_h33t39) | (intro q; exfalso; omega) | (intro _; assumption) | omega) (by first | (intro q; exfalso; omega) | (intro _ k a b c e; have z := s56 k b; rw [z.1] at e; rw [z.2]; exact u9_93_0 k a b (by rw [← a164]; exact c) e) | (intro _ k a b c e; rw [a164] at c; rw [a165] at e; rw [a166]; exact s6_119_0 (by omega) k a b c e) | omega) (Tok_h33t38) (by have q := Tok_at Tok_h33t38; omega) (by omega)
  have J93_0 : ∀ (n : Nat) (p93_0 : Int) (h93_0 : my_H), my_fr [(10, 0), (10, 2), (10, 3), (10, 7), (10, 8), (10, 27), (10, 32), (10, 33), (52, -1), (53, -1), (54, -1), (63, -1), (64, -1), (65, -1), (66, -1), (67, -1), (68, -1), (69, -1), (70, -1), (71, -1), (72, -1), (73, -1), (74, -1), (75, -1), (76, -1), (77, -1), (78, -1), (79, -1)] h h93_0 → 0 ≤ x1 → x1 ≤ 5 → 0 ≤ p93_0 → p93_0 ≤ 4 → h93_0 151 0 = 0 → h93_0 151 2 = 0 → h93_0 151 7 = 0 → h93_0 151 8 = 0 → Mw h93_0 → Mw3 h93_0 → Wrd h93_0 → h93_0 167 6 = 0 → (∀ k : Int, 0 ≤ k → k ≤ 5 → h93_0 164 k = 1 → h93_0 165 k = 0 → h93_0 166 k ≠ x1) → Tok h93_0 → 5 - p93_0 ≤ (n : Int) → wp l rho (d + 5) 168 93 [(2, 151), (0, x1), (0, 0), (0, p93_0)] [] h93_0 Q := by
    intro n
    induction n with
    | zero => intro p93_0 h93_0 gh_93_0 q0_93_0 q1_93_0 q2_93_0 q3_93_0 c151_0_93_0 c151_2_93_0 c151_7_93_0 c151_8_93_0 n_Mw_93_0 n_Mw3_93_0 n_Wrd_93_0 z6_93_0 u9_93_0 tk_93_0 hm_93_0; exfalso; omega
    | succ n ih_93_0 =>
      intro p93_0 h93_0 gh_93_0 q0_93_0 q1_93_0 q2_93_0 q3_93_0 c151_0_93_0 c151_2_93_0 c151_7_93_0 c151_8_93_0 n_Mw_93_0 n_Mw3_93_0 n_Wrd_93_0 z6_93_0 u9_93_0 tk_93_0 hm_93_0
      have Tok_h93_0t48 : Tok h93_0 := tk_93_0
      refine w_iload_n gz_168_93 rfl ?_
      refine w_iconst gz_168_94 (by decide) ?_
      refine w_icge (t := 114) gz_168_95 rfl (fun u49 => ?_) (fun u49 => ?_)
      ·
        refine w_aload_n gz_168_114 rfl ?_
        refine w_iload_n gz_168_115 rfl ?_
        refine w_inv (k := 1) (as := [(0, x1)]) (r := []) (x := 151) (ls0 := [(2, 151), (0, x1), (9, 0)]) gz_168_116 gm_174 rfl is_151 rd_10 rfl rfl rfl rfl rfl (c_Model_readOver_f0 (d := (d + 1)) (x1 := x1) (by omega) (by omega) (c151_8_93_0.trans (by omega)) Tok_h93_0t48 n_Mw_93_0 n_Mw3_93_0 (by first | assumption | omega | (subst_vars; omega) | omega) (fun h50 frh50 w51 w52 Tok_h50t53 Mw_h50t54 Mw3_h50t55 => ?_) (fun h56 frh56 w57 w58 w59 xp60 xp61 Tok_h56t62 Mw_h56t63 Mw3_h56t64 => ?_))
        ·
          have gh50 : my_fr [(10, 0), (10, 2), (10, 3), (10, 7), (10, 8), (10, 27), (10, 32), (10, 33), (52, -1), (53, -1), (54, -1), (63, -1), (64, -1), (65, -1), (66, -1), (67, -1), (68, -1), (69, -1), (70, -1), (71, -1), (72, -1), (73, -1), (74, -1), (75, -1), (76, -1), (77, -1), (78, -1), (79, -1)] h h50 := my_fr.tr gh_93_0 (frh50.mo rfl)
          have Wrd_h50 : Wrd h50 := Wrd_ag (my_ag.fr frh50 rfl) n_Wrd_93_0
          show wp l rho (d + 5) 168 119 [(2, 151), (0, x1), (0, 0), (0, p93_0)] [] h50 Q
          have a164 : ∀ j : Int, h50 164 j = h93_0 164 j := fun j => ((my_fr.at frh50 is_164 rfl).trans (rfl : h93_0 164 j = h93_0 164 j))
          have a165 : ∀ j : Int, h50 165 j = h50 165 j := fun j => rfl
          have a166 : ∀ j : Int, h50 166 j = h50 166 j := fun j => rfl
          have ce65 : h50 151 8 = (h50 151 8) := (rfl : h50 151 8 = h50 151 8)
          rw [show (p93_0 : Int) = 4 from by omega]
          exact J119_0 (17007) ((h50 151 8)) h50 (gh50) (by omega) (by omega) (by omega) (by omega) (((my_fr.at frh50 is_151 rfl).trans c151_0_93_0).trans (by omega)) (((my_fr.at frh50 is_151 rfl).trans c151_2_93_0).trans (by omega)) ((rfl : h50 151 8 = h50 151 8).trans (by omega)) Mw_h50t54 Mw3_h50t55 Wrd_h50 (by first | (intro _; exact no_such_saying) | (intro q; exfalso; omega) | (intro _; assumption) | omega) (by first | (intro q; exfalso; omega) | (intro _ k a b c e; have z := s56 k b; rw [z.1] at e; rw [z.2]; exact u9_93_0 k a b (by rw [← a164]; exact c) e) | (intro _ k a b c e; rw [a164] at c; rw [a165] at e; rw [a166]; exact s6_119_0 (by omega) k a b c e) | omega) (Tok_h50t53) (by have q := Tok_at Tok_h50t53; omega) (by omega)
        ·
          have gh56 : my_fr [(10, 0), (10, 2), (10, 3), (10, 7), (10, 8), (10, 27), (10, 32), (10, 33), (52, -1), (53, -1), (54, -1), (63, -1), (64, -1), (65, -1), (66, -1), (67, -1), (68, -1), (69, -1), (70, -1), (71, -1), (72, -1), (73, -1), (74, -1), (75, -1), (76, -1), (77, -1), (78, -1), (79, -1)] h h56 := my_fr.tr gh_93_0 (frh56.mo rfl)
          have Wrd_h56 : Wrd h56 := Wrd_ag (my_ag.fr frh56 rfl) n_Wrd_93_0
          show wp l rho (d + 5) 168 119 [(2, 151), (0, x1), (0, 0), (0, p93_0)] [] h56 Q
          have s56 := xp61
          have a164 : ∀ j : Int, h56 164 j = h93_0 164 j := fun j => ((my_fr.at frh56 is_164 rfl).trans (rfl : h93_0 164 j = h93_0 164 j))
          have a165 : ∀ j : Int, h56 165 j = h56 165 j := fun j => rfl
          have a166 : ∀ j : Int, h56 166 j = h56 166 j := fun j => rfl
          have ce66 : h56 151 7 = (h56 151 7) := (rfl : h56 151 7 = h56 151 7)
          have ce67 : h56 151 8 = 0 := w59
          rw [show (p93_0 : Int) = 4 from by omega]
          exact J119_0 (17007) (0) h56 (gh56) (by omega) (by omega) (by omega) (by omega) (((my_fr.at frh56 is_151 rfl).trans c151_0_93_0).trans (by omega)) (((my_fr.at frh56 is_151 rfl).trans c151_2_93_0).trans (by omega)) (w59.trans (by omega)) Mw_h56t63 Mw3_h56t64 Wrd_h56 (by first | (intro _; exact no_such_saying) | (intro q; exfalso; omega) | (intro _; assumption) | omega) (by first | (intro q; exfalso; omega) | (intro _ k a b c e; have z := s56 k b; rw [z.1] at e; rw [z.2]; exact u9_93_0 k a b (by rw [← a164]; exact c) e) | (intro _ k a b c e; rw [a164] at c; rw [a165] at e; rw [a166]; exact s6_119_0 (by omega) k a b c e) | omega) (Tok_h56t62) (by have q := Tok_at Tok_h56t62; omega) (by omega)
      ·
        refine w_aload_n gz_168_98 rfl ?_
        refine w_getX (v := 173) gz_168_99 is_151 rd_10 rfl (by decide) rfl ?_
        refine w_bipush gz_168_102 (by decide) ?_
        refine w_iload_n gz_168_104 rfl ?_
        refine w_iadd gz_168_105 ⟨by omega, by omega⟩ ?_
        refine w_iconst gz_168_106 (by decide) ?_
        refine w_iast gz_168_107 is_173 rd_72 (by omega) (by omega) (by omega) (by omega) (fun h69 fh69 => ?_)
        have gh69 : my_fr [(10, 0), (10, 2), (10, 3), (10, 7), (10, 8), (10, 27), (10, 32), (10, 33), (52, -1), (53, -1), (54, -1), (63, -1), (64, -1), (65, -1), (66, -1), (67, -1), (68, -1), (69, -1), (70, -1), (71, -1), (72, -1), (73, -1), (74, -1), (75, -1), (76, -1), (77, -1), (78, -1), (79, -1)] h h69 := my_fr.up gh_93_0 is_173 fh69 rfl
        have Mw_h69 : Mw h69 := Mw_ag (my_ag.up fh69 is_173 rfl) n_Mw_93_0
        have Mw3_h69 : Mw3 h69 := Mw3_ag (my_ag.up fh69 is_173 rfl) n_Mw3_93_0
        have Wrd_h69 : Wrd h69 := Wrd_ag (my_ag.up fh69 is_173 rfl) n_Wrd_93_0
        have Tok_h69 : Tok h69 := Tok_ag (my_ag.up fh69 is_173 rfl) Tok_h93_0t48
        refine w_iinc (ls' := [(2, 151), (0, x1), (0, 0), (0, (p93_0 + 1))]) gz_168_108 rfl gm_168 rfl rfl rfl ⟨by omega, by omega⟩ ?_
        refine w_goto (t := 93) gz_168_111 rfl ?_
        have a164 : ∀ j : Int, h69 164 j = h93_0 164 j := fun j => ((my_up_role fh69 is_164 is_173 rfl).trans (rfl : h93_0 164 j = h93_0 164 j))
        have a165 : ∀ j : Int, h69 165 j = h93_0 165 j := fun j => ((my_up_role fh69 is_165 is_173 rfl).trans (rfl : h93_0 165 j = h93_0 165 j))
        have a166 : ∀ j : Int, h69 166 j = h93_0 166 j := fun j => ((my_up_role fh69 is_166 is_173 rfl).trans (rfl : h93_0 166 j = h93_0 166 j))
        have a167 : ∀ j : Int, h69 167 j = h93_0 167 j := fun j => ((my_up_role fh69 is_167 is_173 rfl).trans (rfl : h93_0 167 j = h93_0 167 j))
        exact ih_93_0 ((p93_0 + 1)) h69 (gh69) (by omega) (by omega) (by omega) (by omega) (((my_up_role fh69 is_151 is_173 rfl).trans c151_0_93_0).trans (by omega)) (((my_up_role fh69 is_151 is_173 rfl).trans c151_2_93_0).trans (by omega)) (((my_up_role fh69 is_151 is_173 rfl).trans c151_7_93_0).trans (by omega)) (((my_up_role fh69 is_151 is_173 rfl).trans c151_8_93_0).trans (by omega)) Mw_h69 Mw3_h69 Wrd_h69 (by rw [a167]; first | exact k67 | exact z6_93_0) (by intro k a b c e; rw [a164] at c; rw [a165] at e; rw [a166]; first | exact u9_93_0 k a b c e | exact un_9_0 (by omega) k a (by omega) c e) (Tok_h69) (by omega)
  have J9_0 : ∀ (n : Nat) (p9_0 p9_1 : Int) (h9_0 : my_H), my_fr [(10, 0), (10, 2), (10, 3), (10, 7), (10, 8), (10, 27), (10, 32), (10, 33), (52, -1), (53, -1), (54, -1), (63, -1), (64, -1), (65, -1), (66, -1), (67, -1), (68, -1), (69, -1), (70, -1), (71, -1), (72, -1), (73, -1), (74, -1), (75, -1), (76, -1), (77, -1), (78, -1), (79, -1)] h h9_0 → 0 ≤ p9_0 → p9_0 ≤ 1 → 0 ≤ p9_1 → p9_1 ≤ 6 → p9_0 ≤ p9_1 → h9_0 151 0 = 0 → Mw h9_0 → Mw3 h9_0 → Wrd h9_0 → (p9_0 = 0 → ∀ k : Int, 0 ≤ k → k < p9_1 → h9_0 164 k = 1 → h9_0 165 k = 0 → h9_0 166 k ≠ x1) → 7 - p9_1 ≤ (n : Int) → wp l rho (d + 5) 168 9 [(2, 151), (0, x1), (0, p9_0), (0, p9_1)] [] h9_0 Q := by
    intro n
    induction n with
    | zero => intro p9_0 p9_1 h9_0 gh_9_0 q0_9_0 q1_9_0 q2_9_0 q3_9_0 q4_9_0 c151_0_9_0 n_Mw_9_0 n_Mw3_9_0 n_Wrd_9_0 un_9_0 hm_9_0; exfalso; omega
    | succ n ih_9_0 =>
      intro p9_0 p9_1 h9_0 gh_9_0 q0_9_0 q1_9_0 q2_9_0 q3_9_0 q4_9_0 c151_0_9_0 n_Mw_9_0 n_Mw3_9_0 n_Wrd_9_0 un_9_0 hm_9_0
      refine w_iload_n gz_168_9 rfl ?_
      refine w_bipush gz_168_10 (by decide) ?_
      refine w_icge (t := 59) gz_168_12 rfl (fun u70 => ?_) (fun u70 => ?_)
      ·
        refine w_iload_n gz_168_59 rfl ?_
        refine w_iconst gz_168_60 (by decide) ?_
        refine w_iconst gz_168_61 (by decide) ?_
        refine w_inS (k := 0) (as := [(0, 5), (0, 0), (0, x1)]) (r := []) (ls0 := [(0, x1), (0, 0), (0, 5)]) gz_168_62 gm_147 rfl rfl rfl rfl rfl rfl ?_
        refine w_iload_n gz_147_0 rfl ?_
        refine w_iload_n gz_147_1 rfl ?_
        refine w_iclt (t := 14) gz_147_2 rfl (fun u71 => ?_) (fun u71 => ?_)
        ·
          refine w_iconst gz_147_14 (by decide) ?_
          refine w_bret gz_147_15 gm_147 (by omega) (by omega) ?_
          show wp l rho (d + 5) 168 65 [(2, 151), (0, x1), (0, p9_0), (0, p9_1)] [(0, 0)] h9_0 Q
          refine w_ifeq (t := 72) gz_168_65 rfl (fun u72 => ?_) (fun u72 => by exfalso; omega)
          refine w_aload_n gz_168_72 rfl ?_
          refine w_iconst gz_168_73 (by decide) ?_
          refine v_putI (j := 2) gz_168_74 rfl is_151 rd_10 rfl (by omega) (by omega) rfl (fun h73 fh73 => ?_)
          have gh73 : my_fr [(10, 0), (10, 2), (10, 3), (10, 7), (10, 8), (10, 27), (10, 32), (10, 33), (52, -1), (53, -1), (54, -1), (63, -1), (64, -1), (65, -1), (66, -1), (67, -1), (68, -1), (69, -1), (70, -1), (71, -1), (72, -1), (73, -1), (74, -1), (75, -1), (76, -1), (77, -1), (78, -1), (79, -1)] h h73 := my_fr.up gh_9_0 is_151 fh73 rfl
          have Mw_h73 : Mw h73 := Mw_ag (my_ag.up fh73 is_151 rfl) n_Mw_9_0
          have Mw3_h73 : Mw3 h73 := Mw3_ag (my_ag.up fh73 is_151 rfl) n_Mw3_9_0
          have Wrd_h73 : Wrd h73 := Wrd_ag (my_ag.up fh73 is_151 rfl) n_Wrd_9_0
          refine w_iconst gz_168_77 (by decide) ?_
          have c74 := ((my_up_fld fh73 (by decide)).trans c151_0_9_0)
          have c75 := (my_up_self fh73)
          exact w_iret gz_168_78 gm_168 (k0 h73 (gh73) (by omega) (by omega) Mw_h73 Mw3_h73 Wrd_h73)
        ·
          refine w_iload_n gz_147_5 rfl ?_
          refine w_iload_n gz_147_6 rfl ?_
          refine w_icgt (t := 14) gz_147_7 rfl (fun u76 => ?_) (fun u76 => ?_)
          ·
            refine w_iconst gz_147_14 (by decide) ?_
            refine w_bret gz_147_15 gm_147 (by omega) (by omega) ?_
            show wp l rho (d + 5) 168 65 [(2, 151), (0, x1), (0, p9_0), (0, p9_1)] [(0, 0)] h9_0 Q
            refine w_ifeq (t := 72) gz_168_65 rfl (fun u77 => ?_) (fun u77 => by exfalso; omega)
            refine w_aload_n gz_168_72 rfl ?_
            refine w_iconst gz_168_73 (by decide) ?_
            refine v_putI (j := 2) gz_168_74 rfl is_151 rd_10 rfl (by omega) (by omega) rfl (fun h78 fh78 => ?_)
            have gh78 : my_fr [(10, 0), (10, 2), (10, 3), (10, 7), (10, 8), (10, 27), (10, 32), (10, 33), (52, -1), (53, -1), (54, -1), (63, -1), (64, -1), (65, -1), (66, -1), (67, -1), (68, -1), (69, -1), (70, -1), (71, -1), (72, -1), (73, -1), (74, -1), (75, -1), (76, -1), (77, -1), (78, -1), (79, -1)] h h78 := my_fr.up gh_9_0 is_151 fh78 rfl
            have Mw_h78 : Mw h78 := Mw_ag (my_ag.up fh78 is_151 rfl) n_Mw_9_0
            have Mw3_h78 : Mw3 h78 := Mw3_ag (my_ag.up fh78 is_151 rfl) n_Mw3_9_0
            have Wrd_h78 : Wrd h78 := Wrd_ag (my_ag.up fh78 is_151 rfl) n_Wrd_9_0
            refine w_iconst gz_168_77 (by decide) ?_
            have c79 := ((my_up_fld fh78 (by decide)).trans c151_0_9_0)
            have c80 := (my_up_self fh78)
            exact w_iret gz_168_78 gm_168 (k0 h78 (gh78) (by omega) (by omega) Mw_h78 Mw3_h78 Wrd_h78)
          ·
            refine w_iconst gz_147_10 (by decide) ?_
            refine w_goto (t := 15) gz_147_11 rfl ?_
            refine w_bret gz_147_15 gm_147 (by omega) (by omega) ?_
            show wp l rho (d + 5) 168 65 [(2, 151), (0, x1), (0, p9_0), (0, p9_1)] [(0, 1)] h9_0 Q
            refine w_ifeq (t := 72) gz_168_65 rfl (fun u81 => by exfalso; omega) (fun u81 => ?_)
            refine w_iload_n gz_168_68 rfl ?_
            refine w_ifeq (t := 79) gz_168_69 rfl (fun u82 => ?_) (fun u82 => ?_)
            ·
              refine w_aload_n gz_168_79 rfl ?_
              refine w_inv (k := 6) (as := []) (r := []) (x := 151) (ls0 := [(2, 151), (9, 0), (9, 0), (9, 0), (9, 0), (9, 0), (9, 0)]) gz_168_80 gm_169 rfl is_151 rd_10 rfl rfl rfl rfl rfl (c_Model_cutAll (d := (d + 2))   (fun h83 frh83 w84 w85 w86 Tok_h83t87 => ?_))
              have gh83 : my_fr [(10, 0), (10, 2), (10, 3), (10, 7), (10, 8), (10, 27), (10, 32), (10, 33), (52, -1), (53, -1), (54, -1), (63, -1), (64, -1), (65, -1), (66, -1), (67, -1), (68, -1), (69, -1), (70, -1), (71, -1), (72, -1), (73, -1), (74, -1), (75, -1), (76, -1), (77, -1), (78, -1), (79, -1)] h h83 := my_fr.tr gh_9_0 (frh83.mo rfl)
              have Mw_h83 : Mw h83 := Mw_ag (my_ag.fr frh83 rfl) n_Mw_9_0
              have Mw3_h83 : Mw3 h83 := Mw3_ag (my_ag.fr frh83 rfl) n_Mw3_9_0
              have Wrd_h83 : Wrd h83 := Wrd_ag (my_ag.fr frh83 rfl) n_Wrd_9_0
              show wp l rho (d + 5) 168 83 [(2, 151), (0, x1), (0, p9_0), (0, p9_1)] [] h83 Q
              refine w_aload_n gz_168_83 rfl ?_
              refine w_getX (v := 167) gz_168_84 is_151 rd_10 rfl (by decide) rfl ?_
              refine w_bipush gz_168_87 (by decide) ?_
              refine w_iconst gz_168_89 (by decide) ?_
              refine w_iast gz_168_90 is_167 rd_66 (by omega) (by omega) (by omega) (by omega) (fun h89 fh89 => ?_)
              have gh89 : my_fr [(10, 0), (10, 2), (10, 3), (10, 7), (10, 8), (10, 27), (10, 32), (10, 33), (52, -1), (53, -1), (54, -1), (63, -1), (64, -1), (65, -1), (66, -1), (67, -1), (68, -1), (69, -1), (70, -1), (71, -1), (72, -1), (73, -1), (74, -1), (75, -1), (76, -1), (77, -1), (78, -1), (79, -1)] h h89 := my_fr.up gh83 is_167 fh89 rfl
              have Wrd_h89 : Wrd h89 := Wrd_ag (my_ag.up fh89 is_167 rfl) Wrd_h83
              have Tok_h89 : Tok h89 := Tok_ag (my_ag.up fh89 is_167 rfl) Tok_h83t87
              have Mw3_h89t90 : Mw3 h89 := Mw3_6 (by decide) fh89 Mw3_h83
              have Mw_h89t91 : Mw h89 := (Mw3_6 (by decide) fh89 Mw3_h83).mw
              have k67 := my_up_self fh89
              refine w_iconst gz_168_91 (by decide) ?_
              refine w_istore_n (ls' := [(2, 151), (0, x1), (0, p9_0), (0, 0)]) gz_168_92 gm_168 rfl rfl rfl ?_
              have a164 : ∀ j : Int, h89 164 j = h9_0 164 j := fun j => ((my_up_role fh89 is_164 is_167 rfl).trans ((my_fr.at frh83 is_164 rfl).trans (rfl : h9_0 164 j = h9_0 164 j)))
              have a165 : ∀ j : Int, h89 165 j = h9_0 165 j := fun j => ((my_up_role fh89 is_165 is_167 rfl).trans ((my_fr.at frh83 is_165 rfl).trans (rfl : h9_0 165 j = h9_0 165 j)))
              have a166 : ∀ j : Int, h89 166 j = h9_0 166 j := fun j => ((my_up_role fh89 is_166 is_167 rfl).trans ((my_fr.at frh83 is_166 rfl).trans (rfl : h9_0 166 j = h9_0 166 j)))
              have a167 : ∀ j : Int, h89 167 j = h89 167 j := fun j => rfl
              rw [show (p9_0 : Int) = 0 from by omega]
              exact J93_0 5 (0) h89 (gh89) (by omega) (by omega) (by omega) (by omega) (((my_up_role fh89 is_151 is_167 rfl).trans ((my_fr.at frh83 is_151 rfl).trans c151_0_9_0)).trans (by omega)) (((my_up_role fh89 is_151 is_167 rfl).trans w84).trans (by omega)) (((my_up_role fh89 is_151 is_167 rfl).trans w85).trans (by omega)) (((my_up_role fh89 is_151 is_167 rfl).trans w86).trans (by omega)) Mw_h89t91 Mw3_h89t90 Wrd_h89 (by rw [a167]; first | exact k67 | exact z6_93_0) (by intro k a b c e; rw [a164] at c; rw [a165] at e; rw [a166]; first | exact u9_93_0 k a b c e | exact un_9_0 (by omega) k a (by omega) c e) (Tok_h89) (by omega)
            ·
              refine w_aload_n gz_168_72 rfl ?_
              refine w_iconst gz_168_73 (by decide) ?_
              refine v_putI (j := 2) gz_168_74 rfl is_151 rd_10 rfl (by omega) (by omega) rfl (fun h92 fh92 => ?_)
              have gh92 : my_fr [(10, 0), (10, 2), (10, 3), (10, 7), (10, 8), (10, 27), (10, 32), (10, 33), (52, -1), (53, -1), (54, -1), (63, -1), (64, -1), (65, -1), (66, -1), (67, -1), (68, -1), (69, -1), (70, -1), (71, -1), (72, -1), (73, -1), (74, -1), (75, -1), (76, -1), (77, -1), (78, -1), (79, -1)] h h92 := my_fr.up gh_9_0 is_151 fh92 rfl
              have Mw_h92 : Mw h92 := Mw_ag (my_ag.up fh92 is_151 rfl) n_Mw_9_0
              have Mw3_h92 : Mw3 h92 := Mw3_ag (my_ag.up fh92 is_151 rfl) n_Mw3_9_0
              have Wrd_h92 : Wrd h92 := Wrd_ag (my_ag.up fh92 is_151 rfl) n_Wrd_9_0
              refine w_iconst gz_168_77 (by decide) ?_
              have c93 := ((my_up_fld fh92 (by decide)).trans c151_0_9_0)
              have c94 := (my_up_self fh92)
              exact w_iret gz_168_78 gm_168 (k0 h92 (gh92) (by omega) (by omega) Mw_h92 Mw3_h92 Wrd_h92)
      ·
        refine w_iload_n gz_168_15 rfl ?_
        refine w_ifne (t := 47) gz_168_16 rfl (fun u95 => ?_) (fun u95 => ?_)
        ·
          refine w_iconst gz_168_47 (by decide) ?_
          refine w_goto (t := 52) gz_168_48 rfl ?_
          refine w_istore_n (ls' := [(2, 151), (0, x1), (0, 1), (0, p9_1)]) gz_168_52 gm_168 rfl rfl rfl ?_
          refine w_iinc (ls' := [(2, 151), (0, x1), (0, 1), (0, (p9_1 + 1))]) gz_168_53 rfl gm_168 rfl rfl rfl ⟨by omega, by omega⟩ ?_
          refine w_goto (t := 9) gz_168_56 rfl ?_
          have a164 : ∀ j : Int, h9_0 164 j = h9_0 164 j := fun _ => rfl
          have a165 : ∀ j : Int, h9_0 165 j = h9_0 165 j := fun _ => rfl
          have a166 : ∀ j : Int, h9_0 166 j = h9_0 166 j := fun _ => rfl
          exact ih_9_0 (1) ((p9_1 + 1)) h9_0 (gh_9_0) (by omega) (by omega) (by omega) (by omega) (by omega) (c151_0_9_0.trans (by omega)) n_Mw_9_0 n_Mw3_9_0 n_Wrd_9_0 (by first | (intro _ k a b; exfalso; omega) | (intro q; exfalso; omega) | (intro q k a b c e; rw [a164] at c; rw [a165] at e; rw [a166]; rcases (by omega : k = p9_1 ∨ k < p9_1) with z | z <;> first | exact un_9_0 (by omega) k a z c e | (subst z; omega) | (subst_vars; omega)) | omega) (by omega)
        ·
          refine w_aload_n gz_168_19 rfl ?_
          refine w_getX (v := 164) gz_168_20 is_151 rd_10 rfl (by decide) rfl ?_
          refine w_iload_n gz_168_23 rfl ?_
          refine w_bald gz_168_24 is_164 rd_63 (by omega) (by omega) (fun v97 ev97 pv97 qv97 => ?_)
          refine w_ifeq (t := 51) gz_168_25 rfl (fun u98 => ?_) (fun u98 => ?_)
          ·
            refine w_iconst gz_168_51 (by decide) ?_
            refine w_istore_n (ls' := [(2, 151), (0, x1), (0, 0), (0, p9_1)]) gz_168_52 gm_168 rfl rfl rfl ?_
            refine w_iinc (ls' := [(2, 151), (0, x1), (0, 0), (0, (p9_1 + 1))]) gz_168_53 rfl gm_168 rfl rfl rfl ⟨by omega, by omega⟩ ?_
            refine w_goto (t := 9) gz_168_56 rfl ?_
            have a164 : ∀ j : Int, h9_0 164 j = h9_0 164 j := fun _ => rfl
            have a165 : ∀ j : Int, h9_0 165 j = h9_0 165 j := fun _ => rfl
            have a166 : ∀ j : Int, h9_0 166 j = h9_0 166 j := fun _ => rfl
            exact ih_9_0 (0) ((p9_1 + 1)) h9_0 (gh_9_0) (by omega) (by omega) (by omega) (by omega) (by omega) (c151_0_9_0.trans (by omega)) n_Mw_9_0 n_Mw3_9_0 n_Wrd_9_0 (by first | (intro _ k a b; exfalso; omega) | (intro q; exfalso; omega) | (intro q k a b c e; rw [a164] at c; rw [a165] at e; rw [a166]; rcases (by omega : k = p9_1 ∨ k < p9_1) with z | z <;> first | exact un_9_0 (by omega) k a z c e | (subst z; omega) | (subst_vars; omega)) | omega) (by omega)
          ·
            refine w_aload_n gz_168_28 rfl ?_
            refine w_getX (v := 165) gz_168_29 is_151 rd_10 rfl (by decide) rfl ?_
            refine w_iload_n gz_168_32 rfl ?_
            refine w_bald gz_168_33 is_165 rd_64 (by omega) (by omega) (fun v100 ev100 pv100 qv100 => ?_)
            refine w_ifne (t := 51) gz_168_34 rfl (fun u101 => ?_) (fun u101 => ?_)
            ·
              refine w_iconst gz_168_51 (by decide) ?_
              refine w_istore_n (ls' := [(2, 151), (0, x1), (0, 0), (0, p9_1)]) gz_168_52 gm_168 rfl rfl rfl ?_
              refine w_iinc (ls' := [(2, 151), (0, x1), (0, 0), (0, (p9_1 + 1))]) gz_168_53 rfl gm_168 rfl rfl rfl ⟨by omega, by omega⟩ ?_
              refine w_goto (t := 9) gz_168_56 rfl ?_
              have a164 : ∀ j : Int, h9_0 164 j = h9_0 164 j := fun _ => rfl
              have a165 : ∀ j : Int, h9_0 165 j = h9_0 165 j := fun _ => rfl
              have a166 : ∀ j : Int, h9_0 166 j = h9_0 166 j := fun _ => rfl
              exact ih_9_0 (0) ((p9_1 + 1)) h9_0 (gh_9_0) (by omega) (by omega) (by omega) (by omega) (by omega) (c151_0_9_0.trans (by omega)) n_Mw_9_0 n_Mw3_9_0 n_Wrd_9_0 (by first | (intro _ k a b; exfalso; omega) | (intro q; exfalso; omega) | (intro q k a b c e; rw [a164] at c; rw [a165] at e; rw [a166]; rcases (by omega : k = p9_1 ∨ k < p9_1) with z | z <;> first | exact un_9_0 (by omega) k a z c e | (subst z; omega) | (subst_vars; omega)) | omega) (by omega)
            ·
              refine w_aload_n gz_168_37 rfl ?_
              refine w_getX (v := 166) gz_168_38 is_151 rd_10 rfl (by decide) rfl ?_
              refine w_iload_n gz_168_41 rfl ?_
              refine w_iald gz_168_42 is_166 rd_65 (by omega) (by omega) (fun v103 ev103 pv103 qv103 => ?_)
              refine w_iload_n gz_168_43 rfl ?_
              refine w_icne (t := 51) gz_168_44 rfl (fun u104 => ?_) (fun u104 => ?_)
              ·
                refine w_iconst gz_168_51 (by decide) ?_
                refine w_istore_n (ls' := [(2, 151), (0, x1), (0, 0), (0, p9_1)]) gz_168_52 gm_168 rfl rfl rfl ?_
                refine w_iinc (ls' := [(2, 151), (0, x1), (0, 0), (0, (p9_1 + 1))]) gz_168_53 rfl gm_168 rfl rfl rfl ⟨by omega, by omega⟩ ?_
                refine w_goto (t := 9) gz_168_56 rfl ?_
                have a164 : ∀ j : Int, h9_0 164 j = h9_0 164 j := fun _ => rfl
                have a165 : ∀ j : Int, h9_0 165 j = h9_0 165 j := fun _ => rfl
                have a166 : ∀ j : Int, h9_0 166 j = h9_0 166 j := fun _ => rfl
                exact ih_9_0 (0) ((p9_1 + 1)) h9_0 (gh_9_0) (by omega) (by omega) (by omega) (by omega) (by omega) (c151_0_9_0.trans (by omega)) n_Mw_9_0 n_Mw3_9_0 n_Wrd_9_0 (by first | (intro _ k a b; exfalso; omega) | (intro q; exfalso; omega) | (intro q k a b c e; rw [a164] at c; rw [a165] at e; rw [a166]; rcases (by omega : k = p9_1 ∨ k < p9_1) with z | z <;> first | exact un_9_0 (by omega) k a z c e | (subst z; omega) | (subst_vars; omega)) | omega) (by omega)
              ·
                refine w_iconst gz_168_47 (by decide) ?_
                refine w_goto (t := 52) gz_168_48 rfl ?_
                refine w_istore_n (ls' := [(2, 151), (0, x1), (0, 1), (0, p9_1)]) gz_168_52 gm_168 rfl rfl rfl ?_
                refine w_iinc (ls' := [(2, 151), (0, x1), (0, 1), (0, (p9_1 + 1))]) gz_168_53 rfl gm_168 rfl rfl rfl ⟨by omega, by omega⟩ ?_
                refine w_goto (t := 9) gz_168_56 rfl ?_
                have a164 : ∀ j : Int, h9_0 164 j = h9_0 164 j := fun _ => rfl
                have a165 : ∀ j : Int, h9_0 165 j = h9_0 165 j := fun _ => rfl
                have a166 : ∀ j : Int, h9_0 166 j = h9_0 166 j := fun _ => rfl
                exact ih_9_0 (1) ((p9_1 + 1)) h9_0 (gh_9_0) (by omega) (by omega) (by omega) (by omega) (by omega) (c151_0_9_0.trans (by omega)) n_Mw_9_0 n_Mw3_9_0 n_Wrd_9_0 (by first | (intro _ k a b; exfalso; omega) | (intro q; exfalso; omega) | (intro q k a b c e; rw [a164] at c; rw [a165] at e; rw [a166]; rcases (by omega : k = p9_1 ∨ k < p9_1) with z | z <;> first | exact un_9_0 (by omega) k a z c e | (subst z; omega) | (subst_vars; omega)) | omega) (by omega)
  refine w_aload_n gz_168_0 rfl ?_
  refine w_iconst gz_168_1 (by decide) ?_
  refine v_putI (j := 0) gz_168_2 rfl is_151 rd_10 rfl (by omega) (by omega) rfl (fun h105 fh105 => ?_)
  have gh105 : my_fr [(10, 0), (10, 2), (10, 3), (10, 7), (10, 8), (10, 27), (10, 32), (10, 33), (52, -1), (53, -1), (54, -1), (63, -1), (64, -1), (65, -1), (66, -1), (67, -1), (68, -1), (69, -1), (70, -1), (71, -1), (72, -1), (73, -1), (74, -1), (75, -1), (76, -1), (77, -1), (78, -1), (79, -1)] h h105 := my_fr.up my_fr.rf is_151 fh105 rfl
  have Mw_h105 : Mw h105 := Mw_ag (my_ag.up fh105 is_151 rfl) n_Mw
  have Mw3_h105 : Mw3 h105 := Mw3_ag (my_ag.up fh105 is_151 rfl) n_Mw3
  have Wrd_h105 : Wrd h105 := Wrd_ag (my_ag.up fh105 is_151 rfl) n_Wrd
  refine w_iconst gz_168_5 (by decide) ?_
  refine w_istore_n (ls' := [(2, 151), (0, x1), (0, 0), (9, 0)]) gz_168_6 gm_168 rfl rfl rfl ?_
  refine w_iconst gz_168_7 (by decide) ?_
  refine w_istore_n (ls' := [(2, 151), (0, x1), (0, 0), (0, 0)]) gz_168_8 gm_168 rfl rfl rfl ?_
  have a164 : ∀ j : Int, h105 164 j = h 164 j := fun j => ((my_up_role fh105 is_164 is_151 rfl).trans (rfl : h 164 j = h 164 j))
  have a165 : ∀ j : Int, h105 165 j = h 165 j := fun j => ((my_up_role fh105 is_165 is_151 rfl).trans (rfl : h 165 j = h 165 j))
  have a166 : ∀ j : Int, h105 166 j = h 166 j := fun j => ((my_up_role fh105 is_166 is_151 rfl).trans (rfl : h 166 j = h 166 j))
  exact J9_0 7 (0) (0) h105 (gh105) (by omega) (by omega) (by omega) (by omega) (by omega) ((my_up_self fh105).trans (by omega)) Mw_h105 Mw3_h105 Wrd_h105 (by first | (intro _ k a b; exfalso; omega) | (intro q; exfalso; omega) | (intro q k a b c e; rw [a164] at c; rw [a165] at e; rw [a166]; rcases (by omega : k = p9_1 ∨ k < p9_1) with z | z <;> first | exact un_9_0 (by omega) k a z c e | (subst z; omega) | (subst_vars; omega)) | omega) (by omega)
end MYNModel_shows
