/-! contracts, printed by wip/gen/gy.py -/
section MYNModel_sortShown5
theorem c_Model_sortShown5 {l : Launch} {rho : Nat → Int32} {d : Nat} {h : my_H} {Q : my_H → my_V → Prop} (k0 : ∀ (h' : my_H), my_fr [(80, -1), (81, -1), (82, -1)] h h' → (zqL (zqN h' (h 151 27)) (h 151 37).toNat).Perm (zqL (zqN h (h 151 27)) (h 151 37).toNat) ∧ zqS zqle (fun i => (zqN h' (h 151 27) i).2) (h 151 37).toNat → Q h' (9, 0)) : wp l rho (d + 1) 199 0 [(2, 151), (9, 0), (9, 0)] [] h Q := by
  refine v_know (x := 151) (j := 27) (b := 27) rfl is_151 rd_10 rfl (fun k151_27 ek151_27 pk151_27 qk151_27 => ?_)
  refine v_know (x := 151) (j := 37) (b := 37) rfl is_151 rd_10 rfl (fun k151_37 ek151_37 pk151_37 qk151_37 => ?_)
  have J2_0 : ∀ (n : Nat) (p2_0 : Int) (h2_0 : my_H), my_fr [(80, -1), (81, -1), (82, -1)] h h2_0 → 0 ≤ p2_0 → p2_0 ≤ 10 → p2_0 ≤ k151_37 → h2_0 151 27 = k151_27 → h2_0 151 37 = k151_37 → SwI h h2_0 (h 151 27) (h 151 37) p2_0 (p2_0 + 1) → 11 - p2_0 ≤ (n : Int) → wp l rho (d + 1) 199 2 [(2, 151), (0, p2_0), (9, 0)] [] h2_0 Q := by
    intro n
    induction n with
    | zero => intro p2_0 h2_0 gh_2_0 q0_2_0 q1_2_0 q2_2_0 c151_27_2_0 c151_37_2_0 sx_2_0 hm_2_0; exfalso; omega
    | succ n ih_2_0 =>
      intro p2_0 h2_0 gh_2_0 q0_2_0 q1_2_0 q2_2_0 c151_27_2_0 c151_37_2_0 sx_2_0 hm_2_0
      have J14_0 : ∀ (n : Nat) (p14_0 : Int) (h14_0 : my_H), my_fr [(80, -1), (81, -1), (82, -1)] h h14_0 → p2_0 ≤ 9 → 1 ≤ p14_0 → p14_0 ≤ 10 → 1 ≤ k151_37 → p14_0 ≤ k151_37 → p2_0 ≤ (p14_0 - 1) → p2_0 ≤ (k151_37 - 1) → h14_0 151 27 = k151_27 → h14_0 151 37 = k151_37 → SwI h h14_0 (h 151 27) (h 151 37) p2_0 p14_0 → 11 - p14_0 ≤ (n : Int) → wp l rho (d + 1) 199 14 [(2, 151), (0, p2_0), (0, p14_0)] [] h14_0 Q := by
        intro n
        induction n with
        | zero => intro p14_0 h14_0 gh_14_0 q0_14_0 q1_14_0 q2_14_0 q3_14_0 q4_14_0 q5_14_0 q6_14_0 c151_27_14_0 c151_37_14_0 sy_14_0 hm_14_0; exfalso; omega
        | succ n ih_14_0 =>
          intro p14_0 h14_0 gh_14_0 q0_14_0 q1_14_0 q2_14_0 q3_14_0 q4_14_0 q5_14_0 q6_14_0 c151_27_14_0 c151_37_14_0 sy_14_0 hm_14_0
          refine w_iload_n gz_199_14 rfl ?_
          refine w_aload_n gz_199_15 rfl ?_
          refine v_getI (j := 37) gz_199_16 rfl is_151 rd_10 rfl (fun v1 ev1 pv1 qv1 => ?_)
          have zv1 := ev1.trans c151_37_14_0
          have n37 : h14_0 151 37 = h 151 37 := my_fr.at gh_14_0 is_151 rfl
          refine w_icge (t := 43) gz_199_19 rfl (fun u2 => ?_) (fun u2 => ?_)
          ·
            refine w_iinc (ls' := [(2, 151), (0, (p2_0 + 1)), (0, p14_0)]) gz_199_43 rfl gm_199 rfl rfl rfl ⟨by omega, by omega⟩ ?_
            refine w_goto (t := 2) gz_199_46 rfl ?_
            refine w_weak (ls' := [(2, 151), (0, (p2_0 + 1)), (9, 0)]) (wk_e (wk_e (wk_9 wk_n))) ?_
            exact ih_2_0 ((p2_0 + 1)) h14_0 (gh_14_0) (by omega) (by omega) (by omega) (c151_27_14_0.trans (by omega)) (ev1.symm.trans (by omega)) (by first | exact SwI_0 | (have q := SwI_p (by omega) (by omega) sy_14_0; rw [show p2_0 + 2 = (p2_0 + 1) + 1 by omega] at q; exact q) | assumption | omega) (by omega)
          ·
            refine w_aload_n gz_199_22 rfl ?_
            refine w_iload_n gz_199_23 rfl ?_
            refine w_iload_n gz_199_24 rfl ?_
            refine w_inv (k := 1) (as := [(0, p2_0), (0, p14_0)]) (r := []) (x := 151) (ls0 := [(2, 151), (0, p14_0), (0, p2_0), (9, 0)]) gz_199_25 gm_200 rfl is_151 rd_10 rfl rfl rfl rfl rfl (c_Model_isBefore5 (d := d) (x1 := p14_0) (x2 := p2_0) (by omega) (by omega) (by omega) (by omega) (fun xp3 => ?_) (fun xp4 => ?_))
            ·
              show wp l rho (d + 1) 199 28 [(2, 151), (0, p2_0), (0, p14_0)] [(0, 0)] h14_0 Q
              have bf := xp3
              have m27 : h14_0 151 27 = h 151 27 := my_fr.at gh_14_0 is_151 rfl
              rw [m27] at bf
              refine w_ifeq (t := 37) gz_199_28 rfl (fun u5 => ?_) (fun u5 => by exfalso; omega)
              refine w_iinc (ls' := [(2, 151), (0, p2_0), (0, (p14_0 + 1))]) gz_199_37 rfl gm_199 rfl rfl rfl ⟨by omega, by omega⟩ ?_
              refine w_goto (t := 14) gz_199_40 rfl ?_
              exact ih_14_0 ((p14_0 + 1)) h14_0 (gh_14_0) (by omega) (by omega) (by omega) (by omega) (by omega) (by omega) (by omega) (c151_27_14_0.trans (by omega)) (ev1.symm.trans (by omega)) (by first | exact sx_2_0 | exact SwI_n (by omega) sy_14_0 bf | exact SwI_y (by omega) (by omega) (by omega) (by omega) sy_14_0 bf y1 y2 y3 (fun c a b => (y4.1 c a b).1) (fun c a b => (y4.1 c a b).2) y4.2.2 | assumption | omega) (by omega)
            ·
              show wp l rho (d + 1) 199 28 [(2, 151), (0, p2_0), (0, p14_0)] [(0, 1)] h14_0 Q
              have bf := xp4
              have m27 : h14_0 151 27 = h 151 27 := my_fr.at gh_14_0 is_151 rfl
              rw [m27] at bf
              refine w_ifeq (t := 37) gz_199_28 rfl (fun u6 => by exfalso; omega) (fun u6 => ?_)
              refine w_aload_n gz_199_31 rfl ?_
              refine w_iload_n gz_199_32 rfl ?_
              refine w_iload_n gz_199_33 rfl ?_
              refine w_inv (k := 4) (as := [(0, p14_0), (0, p2_0)]) (r := []) (x := 151) (ls0 := [(2, 151), (0, p2_0), (0, p14_0), (9, 0), (9, 0), (9, 0), (9, 0)]) gz_199_34 gm_201 rfl is_151 rd_10 rfl rfl rfl rfl rfl (c_Model_swaps5 (d := d) (x1 := p2_0) (x2 := p14_0) (by omega) (by omega) (by omega) (by omega) (by first | assumption | exact no_such_saying | exact Fp_told (by omega) (by omega) | omega | (subst_vars; omega) | omega) (fun h7 frh7 xp8 xp9 xp10 xp11 => ?_))
              have gh7 : my_fr [(80, -1), (81, -1), (82, -1)] h h7 := my_fr.tr gh_14_0 (frh7.mo rfl)
              show wp l rho (d + 1) 199 37 [(2, 151), (0, p2_0), (0, p14_0)] [] h7 Q
              have y1 := xp8
              have y2 := xp9
              have y3 := xp10
              have y4 := xp11
              refine w_iinc (ls' := [(2, 151), (0, p2_0), (0, (p14_0 + 1))]) gz_199_37 rfl gm_199 rfl rfl rfl ⟨by omega, by omega⟩ ?_
              refine w_goto (t := 14) gz_199_40 rfl ?_
              exact ih_14_0 ((p14_0 + 1)) h7 (gh7) (by omega) (by omega) (by omega) (by omega) (by omega) (by omega) (by omega) (((my_fr.at frh7 is_151 rfl).trans c151_27_14_0).trans (by omega)) (((my_fr.at frh7 is_151 rfl).trans ev1.symm).trans (by omega)) (by first | exact sx_2_0 | exact SwI_n (by omega) sy_14_0 bf | exact SwI_y (by omega) (by omega) (by omega) (by omega) sy_14_0 bf y1 y2 y3 (fun c a b => (y4.1 c a b).1) (fun c a b => (y4.1 c a b).2) y4.2.2 | assumption | omega) (by omega)
      refine w_iload_n gz_199_2 rfl ?_
      refine w_aload_n gz_199_3 rfl ?_
      refine v_getI (j := 37) gz_199_4 rfl is_151 rd_10 rfl (fun v12 ev12 pv12 qv12 => ?_)
      have zv12 := ev12.trans c151_37_2_0
      have n37 : h2_0 151 37 = h 151 37 := my_fr.at gh_2_0 is_151 rfl
      refine w_icge (t := 49) gz_199_7 rfl (fun u13 => ?_) (fun u13 => ?_)
      ·
        exact w_vret gz_199_49 gm_199 (k0 h2_0 (gh_2_0) (by first | exact SwI_e sx_2_0 (by omega) | assumption | omega))
      ·
        refine w_iload_n gz_199_10 rfl ?_
        refine w_iconst gz_199_11 (by decide) ?_
        refine w_iadd gz_199_12 ⟨by omega, by omega⟩ ?_
        refine w_istore_n (ls' := [(2, 151), (0, p2_0), (0, (p2_0 + 1))]) gz_199_13 gm_199 rfl rfl rfl ?_
        exact J14_0 10 ((p2_0 + 1)) h2_0 (gh_2_0) (by omega) (by omega) (by omega) (by omega) (by omega) (by omega) (by omega) (c151_27_2_0.trans (by omega)) (ev12.symm.trans (by omega)) (by first | exact sx_2_0 | exact SwI_n (by omega) sy_14_0 bf | exact SwI_y (by omega) (by omega) (by omega) (by omega) sy_14_0 bf y1 y2 y3 (fun c a b => (y4.1 c a b).1) (fun c a b => (y4.1 c a b).2) y4.2.2 | assumption | omega) (by omega)
  refine w_iconst gz_199_0 (by decide) ?_
  refine w_istore_n (ls' := [(2, 151), (0, 0), (9, 0)]) gz_199_1 gm_199 rfl rfl rfl ?_
  exact J2_0 11 (0) h (my_fr.rf) (by omega) (by omega) (by omega) (ek151_27.symm.trans (by omega)) (ek151_37.symm.trans (by omega)) (by first | exact SwI_0 | (have q := SwI_p (by omega) (by omega) sy_14_0; rw [show p2_0 + 2 = 0 + 1 by omega] at q; exact q) | assumption | omega) (by omega)
theorem c_View_load5 {l : Launch} {rho : Nat → Int32} {d : Nat} {h : my_H} {Q : my_H → my_V → Prop} {x0 x1 x2 x3 x4 : Int} (t0 : my_is 8 x0) (t1 : my_is 6 x1) (a2 : 0 ≤ x2) (b2 : x2 ≤ 2) (m2_0 : 0 ≤ x2 % 17) (m2_1 : x2 % 17 ≤ 2) (a3 : 0 ≤ x3) (b3 : x3 ≤ 4) (m3_0 : 0 ≤ x3 % 17) (m3_1 : x3 % 17 ≤ 4) (hn : zqCn (h (x1 + 1)) x2 20 ≤ 10) (k0 : ∀ (h' : my_H), my_fr [(8, 0), (8, 1), (42, -1), (44, -1)] h h' → my_fx x0 3 h h' → 0 ≤ h' x0 0 → h' x0 0 ≤ 10 → 0 ≤ h' x0 1 → h' x0 1 ≤ 4 → h' x0 1 = x3 → h' x0 0 ≤ 10 → LdP h' (zqlb x4) (h (x1 + 1)) x0 x2 x3 → Q h' (9, 0)) : wp l rho (d + 1) 68 0 [(2, x0), (2, x1), (0, x2), (0, x3), (0, x4), (9, 0), (9, 0)] [] h Q := by
  have J13_0 : ∀ (n : Nat) (p13_0 p13_1 : Int) (h13_0 : my_H), my_fr [(8, 0), (8, 1), (42, -1), (44, -1)] h h13_0 → my_fx x0 3 h h13_0 → 0 ≤ p13_0 → p13_0 ≤ 20 → 0 ≤ p13_1 → p13_1 ≤ 10 → p13_1 ≤ p13_0 → h13_0 x0 0 = p13_1 → h13_0 x0 1 = x3 → h13_0 x0 1 = x3 → LdI h13_0 (zqlb x4) (h (x1 + 1)) x0 x2 x3 p13_0 (h13_0 x0 0) → 21 - p13_0 ≤ (n : Int) → wp l rho (d + 1) 68 13 [(2, x0), (2, x1), (0, x2), (0, x3), (0, x4), (0, p13_0), (9, 0)] [] h13_0 Q := by
    intro n
    induction n with
    | zero => intro p13_0 p13_1 h13_0 gh_13_0 gx_13_0 q0_13_0 q1_13_0 q2_13_0 q3_13_0 q4_13_0 ca0_0_13_0 ca0_1_13_0 lc_13_0 ld_13_0 hm_13_0; exfalso; omega
    | succ n ih_13_0 =>
      intro p13_0 p13_1 h13_0 gh_13_0 gx_13_0 q0_13_0 q1_13_0 q2_13_0 q3_13_0 q4_13_0 ca0_0_13_0 ca0_1_13_0 lc_13_0 ld_13_0 hm_13_0
      refine w_iload gz_68_13 rfl ?_
      refine w_bipush gz_68_15 (by decide) ?_
      refine w_icge (t := 123) gz_68_17 rfl (fun u1 => ?_) (fun u1 => ?_)
      ·
        have ce2 : h13_0 x0 0 = p13_1 := ca0_0_13_0
        have ce3 : h13_0 x0 1 = x3 := ca0_1_13_0
        have c4 := ca0_0_13_0
        have c5 := ca0_1_13_0
        exact w_vret gz_68_123 gm_68 (k0 h13_0 (gh_13_0) (gx_13_0) (by omega) (by omega) (by omega) (by omega) (by first | exact LdI_e (by omega) (by omega) hn ld_13_0 rfl (by omega) | (subst_vars; omega) | assumption | omega) (by first | exact LdI_e (by omega) (by omega) hn ld_13_0 rfl (by omega) | (subst_vars; omega) | assumption | omega) (by first | exact LdI_e (by omega) (by omega) hn ld_13_0 rfl (by omega) | (subst_vars; omega) | assumption | omega))
      ·
        refine w_aload_n gz_68_20 rfl ?_
        refine v_getI (j := 0) gz_68_21 rfl t0 rd_8 rfl (fun v6 ev6 pv6 qv6 => ?_)
        have zv6 := ev6.trans ca0_0_13_0
        refine w_bipush gz_68_24 (by decide) ?_
        refine w_icge (t := 123) gz_68_26 rfl (fun u7 => ?_) (fun u7 => ?_)
        ·
          have ce8 : h13_0 x0 0 = v6 := ev6.symm
          have ce9 : h13_0 x0 1 = x3 := ca0_1_13_0
          have c10 := ev6.symm
          have c11 := ca0_1_13_0
          exact w_vret gz_68_123 gm_68 (k0 h13_0 (gh_13_0) (gx_13_0) (by omega) (by omega) (by omega) (by omega) (by first | exact LdI_e (by omega) (by omega) hn ld_13_0 rfl (by omega) | (subst_vars; omega) | assumption | omega) (by first | exact LdI_e (by omega) (by omega) hn ld_13_0 rfl (by omega) | (subst_vars; omega) | assumption | omega) (by first | exact LdI_e (by omega) (by omega) hn ld_13_0 rfl (by omega) | (subst_vars; omega) | assumption | omega))
        ·
          refine w_iload_n gz_68_29 rfl ?_
          refine w_iload gz_68_30 rfl ?_
          refine w_inS (k := 0) (as := [(0, p13_0), (0, x2)]) (r := []) (ls0 := [(0, x2), (0, p13_0)]) gz_68_32 gm_17 rfl rfl rfl rfl rfl rfl ?_
          refine w_iload_n gz_17_0 rfl ?_
          refine w_bipush gz_17_1 (by decide) ?_
          refine w_imul gz_17_3 ⟨by omega, by omega⟩ ?_
          refine w_iload_n gz_17_4 rfl ?_
          refine w_iadd gz_17_5 ⟨by omega, by omega⟩ ?_
          refine w_iconst gz_17_6 (by decide) ?_
          refine w_imul gz_17_7 ⟨by omega, by omega⟩ ?_
          refine w_iret gz_17_8 gm_17 ?_
          show wp l rho (d + 1) 68 35 [(2, x0), (2, x1), (0, x2), (0, x3), (0, x4), (0, p13_0), (9, 0)] [(0, (((x2 * 20) + p13_0) * 4))] h13_0 Q
          refine w_istore (ls' := [(2, x0), (2, x1), (0, x2), (0, x3), (0, x4), (0, p13_0), (0, (((x2 * 20) + p13_0) * 4))]) gz_68_35 gm_68 rfl rfl rfl ?_
          refine w_aload_n gz_68_37 rfl ?_
          refine w_getX (v := (x1 + 1)) gz_68_38 t1 rd_6 rfl (by decide) rfl ?_
          refine w_iload gz_68_41 rfl ?_
          refine w_iald gz_68_43 (ix_6_1 t1) rd_30 (by omega) (by omega) (fun v13 ev13 pv13 qv13 => ?_)
          have c44 : h (x1 + 1) (80 * x2 + 4 * p13_0) = v13 := by
            have z := my_fr.at (j := (((x2 * 20) + p13_0) * 4)) gh_13_0 (ix_6_1 t1) rfl
            rw [show 80 * x2 + 4 * p13_0 = (((x2 * 20) + p13_0) * 4) by omega, ← z]
            omega
          refine w_iconst gz_68_44 (by decide) ?_
          refine w_iceq (t := 117) gz_68_45 rfl (fun u14 => ?_) (fun u14 => ?_)
          ·
            refine w_iinc (ls' := [(2, x0), (2, x1), (0, x2), (0, x3), (0, x4), (0, (p13_0 + 1)), (0, (((x2 * 20) + p13_0) * 4))]) gz_68_117 rfl gm_68 rfl rfl rfl ⟨by omega, by omega⟩ ?_
            refine w_goto (t := 13) gz_68_120 rfl ?_
            have ce15 : h13_0 x0 0 = v6 := ev6.symm
            have ce16 : h13_0 x0 1 = x3 := ca0_1_13_0
            refine w_weak (ls' := [(2, x0), (2, x1), (0, x2), (0, x3), (0, x4), (0, (p13_0 + 1)), (9, 0)]) (wk_e (wk_e (wk_e (wk_e (wk_e (wk_e (wk_9 wk_n))))))) ?_
            exact ih_13_0 ((p13_0 + 1)) (v6) h13_0 (gh_13_0) (gx_13_0) (by omega) (by omega) (by omega) (by omega) (by omega) (ev6.symm.trans (by omega)) (ca0_1_13_0.trans (by omega)) (by first | assumption | omega | (subst_vars; omega) | omega) (by first | (rw [show h13_0 x0 0 = 0 by omega]; exact LdI_0) | exact LdI_n (by omega) ld_13_0 (Or.inl (by omega)) | exact LdI_n (by omega) ld_13_0 (Or.inr (hb.1 (by assumption))) | (have q := LdI_y (by omega) (by omega) (by omega) (by omega) ld_13_0 cc (fun j => my_fr.at gh_13_0 (ix_6_1 t1) rfl) (by omega) (by omega) rfl no_such_saying (by omega) rfl eg no_such_saying (by omega) (by assumption) (by omega) no_such_saying (by omega) (by omega) (hb.2 (by assumption)); rw [show h13_0 x0 0 + 1 = h13_0 x0 0 by omega] at q; exact q) | assumption | omega) (by omega)
          ·
            refine w_iload gz_68_48 rfl ?_
            refine w_i2l gz_68_50 ?_
            refine w_iload gz_68_51 rfl ?_
            refine w_inS (k := 0) (as := [(0, p13_0), (1, x4)]) (r := []) (ls0 := [(1, x4), (9, 0), (0, p13_0)]) gz_68_53 gm_69 rfl rfl rfl rfl rfl rfl ?_
            refine w_lload_n gz_69_0 rfl ?_
            refine w_iload_n gz_69_1 rfl ?_
            refine w_lshrX gz_69_2 (fun v17 ev17 pv17 => ?_)
            refine w_lconst gz_69_3 ?_
            refine w_landX gz_69_4 (fun v18 ev18 pv18 => ?_)
            refine w_lconst gz_69_5 ?_
            refine w_lcmpE gz_69_6 (fun v19 pv19 qv19 xv19 => ?_)
            refine w_ifeq (t := 14) gz_69_7 rfl (fun u20 => ?_) (fun u20 => ?_)
            ·
              refine w_iconst gz_69_14 (by decide) ?_
              refine w_bret gz_69_15 gm_69 (by omega) (by omega) ?_
              show wp l rho (d + 1) 68 56 [(2, x0), (2, x1), (0, x2), (0, x3), (0, x4), (0, p13_0), (0, (((x2 * 20) + p13_0) * 4))] [(0, 0)] h13_0 Q
              have hb := hasBit_x (m := x4) (c := p13_0) (by omega) (by omega) (by assumption) (by assumption) (by assumption)
              refine w_ifeq (t := 117) gz_68_56 rfl (fun u21 => ?_) (fun u21 => by exfalso; omega)
              refine w_iinc (ls' := [(2, x0), (2, x1), (0, x2), (0, x3), (0, x4), (0, (p13_0 + 1)), (0, (((x2 * 20) + p13_0) * 4))]) gz_68_117 rfl gm_68 rfl rfl rfl ⟨by omega, by omega⟩ ?_
              refine w_goto (t := 13) gz_68_120 rfl ?_
              have ce22 : h13_0 x0 0 = v6 := ev6.symm
              have ce23 : h13_0 x0 1 = x3 := ca0_1_13_0
              refine w_weak (ls' := [(2, x0), (2, x1), (0, x2), (0, x3), (0, x4), (0, (p13_0 + 1)), (9, 0)]) (wk_e (wk_e (wk_e (wk_e (wk_e (wk_e (wk_9 wk_n))))))) ?_
              exact ih_13_0 ((p13_0 + 1)) (v6) h13_0 (gh_13_0) (gx_13_0) (by omega) (by omega) (by omega) (by omega) (by omega) (ev6.symm.trans (by omega)) (ca0_1_13_0.trans (by omega)) (by first | assumption | omega | (subst_vars; omega) | omega) (by first | (rw [show h13_0 x0 0 = 0 by omega]; exact LdI_0) | exact LdI_n (by omega) ld_13_0 (Or.inl (by omega)) | exact LdI_n (by omega) ld_13_0 (Or.inr (hb.1 (by assumption))) | (have q := LdI_y (by omega) (by omega) (by omega) (by omega) ld_13_0 cc (fun j => my_fr.at gh_13_0 (ix_6_1 t1) rfl) (by omega) (by omega) rfl no_such_saying (by omega) rfl eg no_such_saying (by omega) (by assumption) (by omega) no_such_saying (by omega) (by omega) (hb.2 (by assumption)); rw [show h13_0 x0 0 + 1 = h13_0 x0 0 by omega] at q; exact q) | assumption | omega) (by omega)
            ·
              refine w_iconst gz_69_10 (by decide) ?_
              refine w_goto (t := 15) gz_69_11 rfl ?_
              refine w_bret gz_69_15 gm_69 (by omega) (by omega) ?_
              show wp l rho (d + 1) 68 56 [(2, x0), (2, x1), (0, x2), (0, x3), (0, x4), (0, p13_0), (0, (((x2 * 20) + p13_0) * 4))] [(0, 1)] h13_0 Q
              have hb := hasBit_x (m := x4) (c := p13_0) (by omega) (by omega) (by assumption) (by assumption) (by assumption)
              refine w_ifeq (t := 117) gz_68_56 rfl (fun u24 => by exfalso; omega) (fun u24 => ?_)
              refine w_aload_n gz_68_59 rfl ?_
              refine w_aload_n gz_68_60 rfl ?_
              refine w_iload gz_68_61 rfl ?_
              refine w_aload_n gz_68_63 rfl ?_
              refine v_getI (j := 0) gz_68_64 rfl t0 rd_8 rfl (fun v25 ev25 pv25 qv25 => ?_)
              have zv25 := ev25.trans ev6.symm
              refine w_bipush gz_68_67 (by decide) ?_
              refine w_imul gz_68_69 ⟨by omega, by omega⟩ ?_
              refine w_iload_n gz_68_70 rfl ?_
              refine w_inv (k := 1) (as := [(0, x3), (0, (v25 * 17)), (0, (((x2 * 20) + p13_0) * 4)), (2, x1)]) (r := []) (x := x0) (ls0 := [(2, x0), (2, x1), (0, (((x2 * 20) + p13_0) * 4)), (0, (v25 * 17)), (0, x3), (9, 0)]) gz_68_71 gm_70 rfl t0 rd_8 rfl rfl rfl rfl rfl (c_View_copyCells5 (d := d) (x0 := x0) (x1 := x1) (x2 := (((x2 * 20) + p13_0) * 4)) (x3 := (v25 * 17)) (x4 := x3) t0 t1 (by omega) (by omega) (by omega) (by omega) (by omega) (by omega) (by omega) (by omega) (by omega) (by omega) (by first | assumption | exact no_such_saying | exact Fp_told (by omega) (by omega) | omega | (subst_vars; omega) | omega) (by first | assumption | exact no_such_saying | exact Fp_told (by omega) (by omega) | omega | (subst_vars; omega) | omega) (fun h26 frh26 fxh26 xp27 => ?_))
              have gh26 : my_fr [(8, 0), (8, 1), (42, -1), (44, -1)] h h26 := my_fr.tr gh_13_0 (frh26.mo rfl)
              have gxh26 : my_fx x0 3 h h26 := my_fx.tr gx_13_0 fxh26
              show wp l rho (d + 1) 68 74 [(2, x0), (2, x1), (0, x2), (0, x3), (0, x4), (0, p13_0), (0, (((x2 * 20) + p13_0) * 4))] [] h26 Q
              have cc := xp27
              have eg : ∀ k : Int, h26 (x0 + 3) k = h13_0 (x0 + 3) k := fun k => my_fr.at frh26 (ix_8_3 t0) rfl
              refine w_aload_n gz_68_74 rfl ?_
              refine w_getX (v := (x0 + 1)) gz_68_75 t0 rd_8 rfl (by decide) rfl ?_
              refine w_aload_n gz_68_78 rfl ?_
              refine v_getI (j := 0) gz_68_79 rfl t0 rd_8 rfl (fun v29 ev29 pv29 qv29 => ?_)
              have zv29 := ev29.trans ((my_fr.at frh26 t0 rfl).trans ev25.symm)
              refine w_bipush gz_68_82 (by decide) ?_
              refine w_imul gz_68_84 ⟨by omega, by omega⟩ ?_
              refine w_bipush gz_68_85 (by decide) ?_
              refine w_iadd gz_68_87 ⟨by omega, by omega⟩ ?_
              refine w_iload gz_68_88 rfl ?_
              refine w_gstT gz_68_90 (ix_8_1 t0) rd_42 (by omega) (by omega) (by omega) (by omega) (by omega) (fun h30 fh30 => ?_)
              have gh30 : my_fr [(8, 0), (8, 1), (42, -1), (44, -1)] h h30 := my_fr.up gh26 (ix_8_1 t0) fh30 rfl
              have gxh30 : my_fx x0 3 h h30 := my_fx.up gxh26 fh30 (by omega)
              refine w_aload_n gz_68_91 rfl ?_
              refine w_getX (v := (x0 + 3)) gz_68_92 t0 rd_8 rfl (by decide) rfl ?_
              refine w_iload gz_68_95 rfl ?_
              refine w_lconst gz_68_97 ?_
              refine w_iload_n gz_68_98 rfl ?_
              refine w_bipush gz_68_99 (by decide) ?_
              refine w_imul gz_68_101 ⟨by omega, by omega⟩ ?_
              refine w_iload gz_68_102 rfl ?_
              refine w_iadd gz_68_104 ⟨by omega, by omega⟩ ?_
              refine w_lshlX gz_68_105 (fun v32 ev32 pv32 => ?_)
              refine w_last gz_68_106 (ix_8_3 t0) rd_44 (by omega) (by omega) (fun h33 fh33 => ?_)
              have gh33 : my_fr [(8, 0), (8, 1), (42, -1), (44, -1)] h h33 := my_fr.up gh30 (ix_8_3 t0) fh33 rfl
              have gxh33 : my_fx x0 3 h h33 := my_fx.up gxh30 fh33 (by omega)
              refine w_aload_n gz_68_107 rfl ?_
              refine w_dup gz_68_108 rfl ?_
              refine v_getI (j := 0) gz_68_109 rfl t0 rd_8 rfl (fun v34 ev34 pv34 qv34 => ?_)
              have zv34 := ev34.trans ((my_up_role fh33 t0 (ix_8_3 t0) rfl).trans ((my_up_role fh30 t0 (ix_8_1 t0) rfl).trans ev29.symm))
              refine w_iconst gz_68_112 (by decide) ?_
              refine w_iadd gz_68_113 ⟨by omega, by omega⟩ ?_
              refine v_putI (j := 0) gz_68_114 rfl t0 rd_8 rfl (by omega) (by omega) rfl (fun h35 fh35 => ?_)
              have gh35 : my_fr [(8, 0), (8, 1), (42, -1), (44, -1)] h h35 := my_fr.up gh33 t0 fh35 rfl
              have gxh35 : my_fx x0 3 h h35 := my_fx.up gxh33 fh35 (by omega)
              refine w_iinc (ls' := [(2, x0), (2, x1), (0, x2), (0, x3), (0, x4), (0, (p13_0 + 1)), (0, (((x2 * 20) + p13_0) * 4))]) gz_68_117 rfl gm_68 rfl rfl rfl ⟨by omega, by omega⟩ ?_
              refine w_goto (t := 13) gz_68_120 rfl ?_
              have ce36 : h35 x0 0 = (v34 + 1) := (my_up_self fh35)
              have ce37 : h35 x0 1 = x3 := ((my_up_fld fh35 (by decide)).trans ((my_up_role fh33 t0 (ix_8_3 t0) rfl).trans ((my_up_role fh30 t0 (ix_8_1 t0) rfl).trans ((my_fr.at frh26 t0 rfl).trans ca0_1_13_0))))
              refine w_weak (ls' := [(2, x0), (2, x1), (0, x2), (0, x3), (0, x4), (0, (p13_0 + 1)), (9, 0)]) (wk_e (wk_e (wk_e (wk_e (wk_e (wk_e (wk_9 wk_n))))))) ?_
              exact ih_13_0 ((p13_0 + 1)) ((v34 + 1)) h35 (gh35) (gxh35) (by omega) (by omega) (by omega) (by omega) (by omega) ((my_up_self fh35).trans (by omega)) (((my_up_fld fh35 (by decide)).trans ((my_up_role fh33 t0 (ix_8_3 t0) rfl).trans ((my_up_role fh30 t0 (ix_8_1 t0) rfl).trans ((my_fr.at frh26 t0 rfl).trans ca0_1_13_0)))).trans (by omega)) (by first | assumption | omega | (subst_vars; omega) | omega) (by first | (rw [show h35 x0 0 = 0 by omega]; exact LdI_0) | exact LdI_n (by omega) ld_13_0 (Or.inl (by omega)) | exact LdI_n (by omega) ld_13_0 (Or.inr (hb.1 (by assumption))) | (have q := LdI_y (by omega) (by omega) (by omega) (by omega) ld_13_0 cc (fun j => my_fr.at gh_13_0 (ix_6_1 t1) rfl) (by omega) (by omega) rfl fh30 (by omega) rfl eg fh33 (by omega) (by assumption) (by omega) fh35 (by omega) (by omega) (hb.2 (by assumption)); rw [show h13_0 x0 0 + 1 = h35 x0 0 by omega] at q; exact q) | assumption | omega) (by omega)
  refine w_aload_n gz_68_0 rfl ?_
  refine w_iconst gz_68_1 (by decide) ?_
  refine v_putI (j := 0) gz_68_2 rfl t0 rd_8 rfl (by omega) (by omega) rfl (fun h38 fh38 => ?_)
  have gh38 : my_fr [(8, 0), (8, 1), (42, -1), (44, -1)] h h38 := my_fr.up my_fr.rf t0 fh38 rfl
  have gxh38 : my_fx x0 3 h h38 := my_fx.up my_fx.rf fh38 (by omega)
  refine w_aload_n gz_68_5 rfl ?_
  refine w_iload_n gz_68_6 rfl ?_
  refine v_putI (j := 1) gz_68_7 rfl t0 rd_8 rfl (by omega) (by omega) rfl (fun h39 fh39 => ?_)
  have gh39 : my_fr [(8, 0), (8, 1), (42, -1), (44, -1)] h h39 := my_fr.up gh38 t0 fh39 rfl
  have gxh39 : my_fx x0 3 h h39 := my_fx.up gxh38 fh39 (by omega)
  refine w_iconst gz_68_10 (by decide) ?_
  refine w_istore (ls' := [(2, x0), (2, x1), (0, x2), (0, x3), (0, x4), (0, 0), (9, 0)]) gz_68_11 gm_68 rfl rfl rfl ?_
  have ce40 : h39 x0 0 = 0 := ((my_up_fld fh39 (by decide)).trans (my_up_self fh38))
  have ce41 : h39 x0 1 = x3 := (my_up_self fh39)
  exact J13_0 21 (0) (0) h39 (gh39) (gxh39) (by omega) (by omega) (by omega) (by omega) (by omega) (((my_up_fld fh39 (by decide)).trans (my_up_self fh38)).trans (by omega)) ((my_up_self fh39).trans (by omega)) (by first | assumption | omega | (subst_vars; omega) | omega) (by first | (rw [show h39 x0 0 = 0 by omega]; exact LdI_0) | exact LdI_n (by omega) ld_13_0 (Or.inl (by omega)) | exact LdI_n (by omega) ld_13_0 (Or.inr (hb.1 (by assumption))) | (have q := LdI_y (by omega) (by omega) (by omega) (by omega) ld_13_0 cc (fun j => my_fr.at gh_13_0 (ix_6_1 t1) rfl) (by omega) (by omega) rfl no_such_saying (by omega) rfl eg fh38 (by omega) (by assumption) (by omega) fh39 (by omega) (by omega) (hb.2 (by assumption)); rw [show h13_0 x0 0 + 1 = h39 x0 0 by omega] at q; exact q) | assumption | omega) (by omega)
theorem c_View_sort5 {l : Launch} {rho : Nat → Int32} {d : Nat} {h : my_H} {Q : my_H → my_V → Prop} {x0 : Int} (t0 : my_is 8 x0) (hb : ∀ i : Nat, (i : Int) < h x0 0 → zqBe (zqE h x0 (h x0 1) i).2) (k0 : ∀ (h' : my_H), my_fr [(42, -1)] h h' → my_fx x0 3 h h' → h' x0 0 = h x0 0 → h' x0 1 = h x0 1 → SrtI h h' x0 (h x0 1) (h x0 0) (h x0 0) → Q h' (9, 0)) : wp l rho (d + 2) 79 0 [(2, x0), (9, 0), (9, 0), (9, 0)] [] h Q := by
  refine v_know (x := x0) (j := 0) (b := 0) rfl t0 rd_8 rfl (fun ka0_0 eka0_0 pka0_0 qka0_0 => ?_)
  refine v_know (x := x0) (j := 1) (b := 1) rfl t0 rd_8 rfl (fun ka0_1 eka0_1 pka0_1 qka0_1 => ?_)
  have J2_0 : ∀ (n : Nat) (p2_0 : Int) (h2_0 : my_H), my_fr [(42, -1)] h h2_0 → my_fx x0 3 h h2_0 → 1 ≤ p2_0 → p2_0 ≤ 11 → p2_0 ≤ (ka0_0 + 1) → h2_0 x0 0 = ka0_0 → h2_0 x0 1 = ka0_1 → SrtI h h2_0 x0 (h x0 1) (h x0 0) p2_0 → 12 - p2_0 ≤ (n : Int) → wp l rho (d + 2) 79 2 [(2, x0), (0, p2_0), (9, 0), (9, 0)] [] h2_0 Q := by
    intro n
    induction n with
    | zero => intro p2_0 h2_0 gh_2_0 gx_2_0 q0_2_0 q1_2_0 q2_2_0 ca0_0_2_0 ca0_1_2_0 si_2_0 hm_2_0; exfalso; omega
    | succ n ih_2_0 =>
      intro p2_0 h2_0 gh_2_0 gx_2_0 q0_2_0 q1_2_0 q2_2_0 ca0_0_2_0 ca0_1_2_0 si_2_0 hm_2_0
      have J72_0 : ∀ (n : Nat) (p72_0 p72_1 : Int) (h72_0 : my_H), my_fr [(42, -1)] h h72_0 → my_fx x0 3 h h72_0 → p2_0 ≤ 10 → 0 ≤ p72_0 → p72_0 ≤ 9 → 0 ≤ p72_1 → p72_1 ≤ 10 → 2 ≤ ka0_0 → p72_0 ≤ p72_1 → p72_0 ≤ (p2_0 - 1) → p72_0 ≤ (ka0_0 - 2) → p72_1 ≤ p2_0 → p72_1 ≤ (ka0_0 - 1) → p2_0 ≤ (ka0_0 - 1) → h72_0 x0 0 = ka0_0 → h72_0 x0 1 = ka0_1 → SrtB h2_0 h72_0 x0 p2_0 p72_1 → SrtT h2_0 x0 (h x0 1) p2_0 p72_0 → p72_0 = 0 ∨ zqle (zqE h2_0 x0 (h x0 1) (p72_0 - 1).toNat).2 (zqE h2_0 x0 (h x0 1) (p2_0).toNat).2 → p72_1 - (-1) ≤ (n : Int) → wp l rho (d + 2) 79 72 [(2, x0), (0, p2_0), (0, p72_0), (0, p72_1)] [] h72_0 Q := by
        intro n
        induction n with
        | zero => intro p72_0 p72_1 h72_0 gh_72_0 gx_72_0 q0_72_0 q1_72_0 q2_72_0 q3_72_0 q4_72_0 q5_72_0 q6_72_0 q7_72_0 q8_72_0 q9_72_0 q10_72_0 q11_72_0 ca0_0_72_0 ca0_1_72_0 sb_72_0 tu_72_0 tl_72_0 hm_72_0; exfalso; omega
        | succ n ih_72_0 =>
          intro p72_0 p72_1 h72_0 gh_72_0 gx_72_0 q0_72_0 q1_72_0 q2_72_0 q3_72_0 q4_72_0 q5_72_0 q6_72_0 q7_72_0 q8_72_0 q9_72_0 q10_72_0 q11_72_0 ca0_0_72_0 ca0_1_72_0 sb_72_0 tu_72_0 tl_72_0 hm_72_0
          refine w_iload_n gz_79_72 rfl ?_
          refine w_iload_n gz_79_73 rfl ?_
          refine w_icle (t := 91) gz_79_74 rfl (fun u1 => ?_) (fun u1 => ?_)
          ·
            refine w_aload_n gz_79_91 rfl ?_
            refine w_bipush gz_79_92 (by decide) ?_
            refine w_iload_n gz_79_94 rfl ?_
            refine w_inv (k := 0) (as := [(0, p72_0), (0, 11)]) (r := []) (x := x0) (ls0 := [(2, x0), (0, 11), (0, p72_0)]) gz_79_95 gm_72 rfl t0 rd_8 rfl rfl rfl rfl rfl ?_
            refine w_iload_n gz_72_0 rfl ?_
            refine w_iload_n gz_72_1 rfl ?_
            refine w_iceq (t := 26) gz_72_2 rfl (fun u2 => by exfalso; omega) (fun u2 => ?_)
            refine w_aload_n gz_72_5 rfl ?_
            refine w_getX (v := (x0 + 1)) gz_72_6 t0 rd_8 rfl (by decide) rfl ?_
            refine w_iload_n gz_72_9 rfl ?_
            refine w_bipush gz_72_10 (by decide) ?_
            refine w_imul gz_72_12 ⟨by omega, by omega⟩ ?_
            refine w_aload_n gz_72_13 rfl ?_
            refine w_getX (v := (x0 + 1)) gz_72_14 t0 rd_8 rfl (by decide) rfl ?_
            refine w_iload_n gz_72_17 rfl ?_
            refine w_bipush gz_72_18 (by decide) ?_
            refine w_imul gz_72_20 ⟨by omega, by omega⟩ ?_
            refine w_bipush gz_72_21 (by decide) ?_
            refine w_cpG gz_72_23 (ix_8_1 t0) rd_42 (ix_8_1 t0) rd_42 (by omega) (by omega) (by omega) (by omega) (by omega) rfl (by omega) (fun h5 fh5 => ?_)
            have gh5 : my_fr [(42, -1)] h h5 := my_fr.cp gh_72_0 (ix_8_1 t0) fh5 rfl
            have gxh5 : my_fx x0 3 h h5 := my_fx.cp gx_72_0 fh5 (by omega)
            refine w_vret gz_72_26 gm_72 ?_
            show wp l rho (d + 2) 79 98 [(2, x0), (0, p2_0), (0, p72_0), (0, p72_1)] [] h5 Q
            refine w_iinc (ls' := [(2, x0), (0, (p2_0 + 1)), (0, p72_0), (0, p72_1)]) gz_79_98 rfl gm_79 rfl rfl rfl ⟨by omega, by omega⟩ ?_
            refine w_goto (t := 2) gz_79_101 rfl ?_
            refine w_weak (ls' := [(2, x0), (0, (p2_0 + 1)), (9, 0), (9, 0)]) (wk_e (wk_e (wk_9 (wk_9 wk_n)))) ?_
            exact ih_2_0 ((p2_0 + 1)) h5 (gh5) (gxh5) (by omega) (by omega) (by omega) (((my_cp_role fh5 t0 (ix_8_1 t0) rfl).trans ca0_0_72_0).trans (by omega)) (((my_cp_role fh5 t0 (ix_8_1 t0) rfl).trans ca0_1_72_0).trans (by omega)) (by first | exact SrtI_0 | (rw [eh_12_0]; refine SrtI_n (by omega) si_2_0 (Or.inr ?_); have q := zqCmp_ge cm (by omega); rw [show p72_0 = p2_0 by omega] at q; exact q) | exact SrtI_m (by omega) (by omega) (by omega) (by omega) (by omega) si_2_0 tu_72_0 tl_72_0 (by have q := sb_72_0; rw [show p72_1 = p72_0 by omega] at q; exact q) fh5 | assumption | omega) (by omega)
          ·
            refine w_aload_n gz_79_77 rfl ?_
            refine w_iload_n gz_79_78 rfl ?_
            refine w_iconst gz_79_79 (by decide) ?_
            refine w_isub gz_79_80 ⟨by omega, by omega⟩ ?_
            refine w_iload_n gz_79_81 rfl ?_
            refine w_inv (k := 0) (as := [(0, p72_1), (0, (p72_1 - 1))]) (r := []) (x := x0) (ls0 := [(2, x0), (0, (p72_1 - 1)), (0, p72_1)]) gz_79_82 gm_72 rfl t0 rd_8 rfl rfl rfl rfl rfl ?_
            refine w_iload_n gz_72_0 rfl ?_
            refine w_iload_n gz_72_1 rfl ?_
            refine w_iceq (t := 26) gz_72_2 rfl (fun u6 => by exfalso; omega) (fun u6 => ?_)
            refine w_aload_n gz_72_5 rfl ?_
            refine w_getX (v := (x0 + 1)) gz_72_6 t0 rd_8 rfl (by decide) rfl ?_
            refine w_iload_n gz_72_9 rfl ?_
            refine w_bipush gz_72_10 (by decide) ?_
            refine w_imul gz_72_12 ⟨by omega, by omega⟩ ?_
            refine w_aload_n gz_72_13 rfl ?_
            refine w_getX (v := (x0 + 1)) gz_72_14 t0 rd_8 rfl (by decide) rfl ?_
            refine w_iload_n gz_72_17 rfl ?_
            refine w_bipush gz_72_18 (by decide) ?_
            refine w_imul gz_72_20 ⟨by omega, by omega⟩ ?_
            refine w_bipush gz_72_21 (by decide) ?_
            refine w_cpG gz_72_23 (ix_8_1 t0) rd_42 (ix_8_1 t0) rd_42 (by omega) (by omega) (by omega) (by omega) (by omega) rfl (by omega) (fun h9 fh9 => ?_)
            have gh9 : my_fr [(42, -1)] h h9 := my_fr.cp gh_72_0 (ix_8_1 t0) fh9 rfl
            have gxh9 : my_fx x0 3 h h9 := my_fx.cp gx_72_0 fh9 (by omega)
            refine w_vret gz_72_26 gm_72 ?_
            show wp l rho (d + 2) 79 85 [(2, x0), (0, p2_0), (0, p72_0), (0, p72_1)] [] h9 Q
            refine w_iinc (ls' := [(2, x0), (0, p2_0), (0, p72_0), (0, (p72_1 + (-1)))]) gz_79_85 rfl gm_79 rfl rfl rfl ⟨by omega, by omega⟩ ?_
            refine w_goto (t := 72) gz_79_88 rfl ?_
            exact ih_72_0 (p72_0) ((p72_1 + (-1))) h9 (gh9) (gxh9) (by omega) (by omega) (by omega) (by omega) (by omega) (by omega) (by omega) (by omega) (by omega) (by omega) (by omega) (by omega) (((my_cp_role fh9 t0 (ix_8_1 t0) rfl).trans ca0_0_72_0).trans (by omega)) (((my_cp_role fh9 t0 (ix_8_1 t0) rfl).trans ca0_1_72_0).trans (by omega)) (by first | exact SrtB_0 (by omega) (by omega) (by rw [← eh_12_0]; exact fh9) | (have q := SrtB_s (by omega) (by omega) (by omega) sb_72_0 fh9; rw [show p72_1 - 1 = (p72_1 + (-1)) by omega] at q; exact q) | assumption | omega) (by first | exact tt_12_0 | exact tu_72_0 | assumption | omega) (by first | exact tl_72_0 | exact Or.inl (by omega) | exact Or.inr (zqCmp_ge cm (by omega)) | assumption | omega) (by omega)
      have J12_0 : ∀ (n : Nat) (p12_0 : Int) (h12_0 : my_H), my_fr [(42, -1)] h h12_0 → my_fx x0 3 h h12_0 → p2_0 ≤ 10 → 0 ≤ p12_0 → p12_0 ≤ 10 → 2 ≤ ka0_0 → p12_0 ≤ p2_0 → p12_0 ≤ (ka0_0 - 1) → p2_0 ≤ (ka0_0 - 1) → h12_0 x0 0 = ka0_0 → h12_0 x0 1 = ka0_1 → h12_0 = h2_0 → SrtT h2_0 x0 (h x0 1) p2_0 p12_0 → p12_0 - (-1) ≤ (n : Int) → wp l rho (d + 2) 79 12 [(2, x0), (0, p2_0), (0, p12_0), (9, 0)] [] h12_0 Q := by
        intro n
        induction n with
        | zero => intro p12_0 h12_0 gh_12_0 gx_12_0 q0_12_0 q1_12_0 q2_12_0 q3_12_0 q4_12_0 q5_12_0 q6_12_0 ca0_0_12_0 ca0_1_12_0 eh_12_0 tt_12_0 hm_12_0; exfalso; omega
        | succ n ih_12_0 =>
          intro p12_0 h12_0 gh_12_0 gx_12_0 q0_12_0 q1_12_0 q2_12_0 q3_12_0 q4_12_0 q5_12_0 q6_12_0 ca0_0_12_0 ca0_1_12_0 eh_12_0 tt_12_0 hm_12_0
          refine w_iload_n gz_79_12 rfl ?_
          refine w_ifle (t := 58) gz_79_13 rfl (fun u10 => ?_) (fun u10 => ?_)
          ·
            refine w_iload_n gz_79_58 rfl ?_
            refine w_iload_n gz_79_59 rfl ?_
            refine w_icge (t := 98) gz_79_60 rfl (fun u11 => by exfalso; omega) (fun u11 => ?_)
            refine w_aload_n gz_79_63 rfl ?_
            refine w_iload_n gz_79_64 rfl ?_
            refine w_bipush gz_79_65 (by decide) ?_
            refine w_inv (k := 0) (as := [(0, 11), (0, p2_0)]) (r := []) (x := x0) (ls0 := [(2, x0), (0, p2_0), (0, 11)]) gz_79_67 gm_72 rfl t0 rd_8 rfl rfl rfl rfl rfl ?_
            refine w_iload_n gz_72_0 rfl ?_
            refine w_iload_n gz_72_1 rfl ?_
            refine w_iceq (t := 26) gz_72_2 rfl (fun u12 => by exfalso; omega) (fun u12 => ?_)
            refine w_aload_n gz_72_5 rfl ?_
            refine w_getX (v := (x0 + 1)) gz_72_6 t0 rd_8 rfl (by decide) rfl ?_
            refine w_iload_n gz_72_9 rfl ?_
            refine w_bipush gz_72_10 (by decide) ?_
            refine w_imul gz_72_12 ⟨by omega, by omega⟩ ?_
            refine w_aload_n gz_72_13 rfl ?_
            refine w_getX (v := (x0 + 1)) gz_72_14 t0 rd_8 rfl (by decide) rfl ?_
            refine w_iload_n gz_72_17 rfl ?_
            refine w_bipush gz_72_18 (by decide) ?_
            refine w_imul gz_72_20 ⟨by omega, by omega⟩ ?_
            refine w_bipush gz_72_21 (by decide) ?_
            refine w_cpG gz_72_23 (ix_8_1 t0) rd_42 (ix_8_1 t0) rd_42 (by omega) (by omega) (by omega) (by omega) (by omega) rfl (by omega) (fun h15 fh15 => ?_)
            have gh15 : my_fr [(42, -1)] h h15 := my_fr.cp gh_12_0 (ix_8_1 t0) fh15 rfl
            have gxh15 : my_fx x0 3 h h15 := my_fx.cp gx_12_0 fh15 (by omega)
            refine w_vret gz_72_26 gm_72 ?_
            show wp l rho (d + 2) 79 70 [(2, x0), (0, p2_0), (0, p12_0), (9, 0)] [] h15 Q
            refine w_iload_n gz_79_70 rfl ?_
            refine w_istore_n (ls' := [(2, x0), (0, p2_0), (0, p12_0), (0, p2_0)]) gz_79_71 gm_79 rfl rfl rfl ?_
            exact J72_0 11 (p12_0) (p2_0) h15 (gh15) (gxh15) (by omega) (by omega) (by omega) (by omega) (by omega) (by omega) (by omega) (by omega) (by omega) (by omega) (by omega) (by omega) (((my_cp_role fh15 t0 (ix_8_1 t0) rfl).trans ca0_0_12_0).trans (by omega)) (((my_cp_role fh15 t0 (ix_8_1 t0) rfl).trans ca0_1_12_0).trans (by omega)) (by first | exact SrtB_0 (by omega) (by omega) (by rw [← eh_12_0]; exact fh15) | (have q := SrtB_s (by omega) (by omega) (by omega) sb_72_0 fh15; rw [show p72_1 - 1 = p2_0 by omega] at q; exact q) | assumption | omega) (by first | exact tt_12_0 | exact tu_72_0 | assumption | omega) (by first | exact tl_72_0 | exact Or.inl (by omega) | exact Or.inr (zqCmp_ge cm (by omega)) | assumption | omega) (by omega)
          ·
            refine w_aload_n gz_79_16 rfl ?_
            refine w_iload_n gz_79_17 rfl ?_
            refine w_aload_n gz_79_18 rfl ?_
            refine w_iload_n gz_79_19 rfl ?_
            refine w_iconst gz_79_20 (by decide) ?_
            refine w_isub gz_79_21 ⟨by omega, by omega⟩ ?_
            have bb := SrtI_be si_2_0 hb
            refine w_inv (k := 2) (as := [(0, (p12_0 - 1)), (2, x0), (0, p2_0)]) (r := []) (x := x0) (ls0 := [(2, x0), (0, p2_0), (2, x0), (0, (p12_0 - 1)), (9, 0), (9, 0)]) gz_79_22 gm_80 rfl t0 rd_8 rfl rfl rfl rfl rfl (c_View_compare5 (d := (d + 1)) (x0 := x0) (x1 := p2_0) (x2 := x0) (x3 := (p12_0 - 1)) t0 (by omega) (by omega) (by omega) (by omega) t0 (by omega) (by omega) (by omega) (by omega) (by rw [ca0_1_12_0, eka0_1, eh_12_0]; exact bb _ (by omega)) (by rw [ca0_1_12_0, eka0_1, eh_12_0]; exact bb _ (by omega)) (fun xp16 => ?_) (fun v17 w18 w19 w20 w21 xp22 => ?_))
            ·
              show wp l rho (d + 2) 79 25 [(2, x0), (0, p2_0), (0, p12_0), (9, 0)] [(0, 0)] h12_0 Q
              have cm := xp16
              rw [ca0_1_12_0, eka0_1, eh_12_0] at cm
              refine w_istore_n (ls' := [(2, x0), (0, p2_0), (0, p12_0), (0, 0)]) gz_79_25 gm_79 rfl rfl rfl ?_
              refine w_iload_n gz_79_26 rfl ?_
              refine w_ifgt (t := 58) gz_79_27 rfl (fun u23 => by exfalso; omega) (fun u23 => ?_)
              refine w_iload_n gz_79_30 rfl ?_
              refine w_ifne (t := 52) gz_79_31 rfl (fun u24 => by exfalso; omega) (fun u24 => ?_)
              refine w_aload_n gz_79_34 rfl ?_
              refine w_iload_n gz_79_35 rfl ?_
              refine w_inv (k := 0) (as := [(0, p2_0)]) (r := []) (x := x0) (ls0 := [(2, x0), (0, p2_0)]) gz_79_36 gm_75 rfl t0 rd_8 rfl rfl rfl rfl rfl ?_
              refine w_aload_n gz_75_0 rfl ?_
              refine w_getX (v := (x0 + 1)) gz_75_1 t0 rd_8 rfl (by decide) rfl ?_
              refine w_iload_n gz_75_4 rfl ?_
              refine w_bipush gz_75_5 (by decide) ?_
              refine w_imul gz_75_7 ⟨by omega, by omega⟩ ?_
              refine w_bipush gz_75_8 (by decide) ?_
              refine w_iadd gz_75_10 ⟨by omega, by omega⟩ ?_
              refine w_gldT gz_75_11 (ix_8_1 t0) rd_42 (by omega) (by omega) (by omega) (fun v26 ev26 pv26 qv26 => ?_)
              refine w_iret gz_75_12 gm_75 ?_
              show wp l rho (d + 2) 79 39 [(2, x0), (0, p2_0), (0, p12_0), (0, 0)] [(0, v26)] h12_0 Q
              refine w_aload_n gz_79_39 rfl ?_
              refine w_iload_n gz_79_40 rfl ?_
              refine w_iconst gz_79_41 (by decide) ?_
              refine w_isub gz_79_42 ⟨by omega, by omega⟩ ?_
              refine w_inv (k := 0) (as := [(0, (p12_0 - 1))]) (r := [(0, v26)]) (x := x0) (ls0 := [(2, x0), (0, (p12_0 - 1))]) gz_79_43 gm_75 rfl t0 rd_8 rfl rfl rfl rfl rfl ?_
              refine w_aload_n gz_75_0 rfl ?_
              refine w_getX (v := (x0 + 1)) gz_75_1 t0 rd_8 rfl (by decide) rfl ?_
              refine w_iload_n gz_75_4 rfl ?_
              refine w_bipush gz_75_5 (by decide) ?_
              refine w_imul gz_75_7 ⟨by omega, by omega⟩ ?_
              refine w_bipush gz_75_8 (by decide) ?_
              refine w_iadd gz_75_10 ⟨by omega, by omega⟩ ?_
              refine w_gldT gz_75_11 (ix_8_1 t0) rd_42 (by omega) (by omega) (by omega) (fun v28 ev28 pv28 qv28 => ?_)
              refine w_iret gz_75_12 gm_75 ?_
              show wp l rho (d + 2) 79 46 [(2, x0), (0, p2_0), (0, p12_0), (0, 0)] [(0, v28), (0, v26)] h12_0 Q
              refine w_iclt (t := 52) gz_79_46 rfl (fun u29 => ?_) (fun u29 => ?_)
              ·
                refine w_iinc (ls' := [(2, x0), (0, p2_0), (0, (p12_0 + (-1))), (0, 0)]) gz_79_52 rfl gm_79 rfl rfl rfl ⟨by omega, by omega⟩ ?_
                refine w_goto (t := 12) gz_79_55 rfl ?_
                refine w_weak (ls' := [(2, x0), (0, p2_0), (0, (p12_0 + (-1))), (9, 0)]) (wk_e (wk_e (wk_e (wk_9 wk_n)))) ?_
                exact ih_12_0 ((p12_0 + (-1))) h12_0 (gh_12_0) (gx_12_0) (by omega) (by omega) (by omega) (by omega) (by omega) (by omega) (by omega) (ca0_0_12_0.trans (by omega)) (ca0_1_12_0.trans (by omega)) (by first | rfl | exact eh_12_0 | assumption | omega) (by first | exact SrtT_0 | (have q := SrtT_s (by omega) tt_12_0 (zqCmp_le cm (by omega)); rw [show p12_0 - 1 = (p12_0 + (-1)) by omega] at q; exact q) | assumption | omega) (by omega)
              ·
                refine w_goto (t := 58) gz_79_49 rfl ?_
                refine w_iload_n gz_79_58 rfl ?_
                refine w_iload_n gz_79_59 rfl ?_
                refine w_icge (t := 98) gz_79_60 rfl (fun u30 => ?_) (fun u30 => ?_)
                ·
                  refine w_iinc (ls' := [(2, x0), (0, (p2_0 + 1)), (0, p12_0), (0, 0)]) gz_79_98 rfl gm_79 rfl rfl rfl ⟨by omega, by omega⟩ ?_
                  refine w_goto (t := 2) gz_79_101 rfl ?_
                  refine w_weak (ls' := [(2, x0), (0, (p2_0 + 1)), (9, 0), (9, 0)]) (wk_e (wk_e (wk_9 (wk_9 wk_n)))) ?_
                  exact ih_2_0 ((p2_0 + 1)) h12_0 (gh_12_0) (gx_12_0) (by omega) (by omega) (by omega) (ca0_0_12_0.trans (by omega)) (ca0_1_12_0.trans (by omega)) (by first | exact SrtI_0 | (rw [eh_12_0]; refine SrtI_n (by omega) si_2_0 (Or.inr ?_); have q := zqCmp_ge cm (by omega); rw [show p12_0 = p2_0 by omega] at q; exact q) | exact SrtI_m (by omega) (by omega) (by omega) (by omega) (by omega) si_2_0 tu_72_0 tl_72_0 (by have q := sb_72_0; rw [show 0 = p12_0 by omega] at q; exact q) no_such_copy | assumption | omega) (by omega)
                ·
                  refine w_aload_n gz_79_63 rfl ?_
                  refine w_iload_n gz_79_64 rfl ?_
                  refine w_bipush gz_79_65 (by decide) ?_
                  refine w_inv (k := 0) (as := [(0, 11), (0, p2_0)]) (r := []) (x := x0) (ls0 := [(2, x0), (0, p2_0), (0, 11)]) gz_79_67 gm_72 rfl t0 rd_8 rfl rfl rfl rfl rfl ?_
                  refine w_iload_n gz_72_0 rfl ?_
                  refine w_iload_n gz_72_1 rfl ?_
                  refine w_iceq (t := 26) gz_72_2 rfl (fun u31 => by exfalso; omega) (fun u31 => ?_)
                  refine w_aload_n gz_72_5 rfl ?_
                  refine w_getX (v := (x0 + 1)) gz_72_6 t0 rd_8 rfl (by decide) rfl ?_
                  refine w_iload_n gz_72_9 rfl ?_
                  refine w_bipush gz_72_10 (by decide) ?_
                  refine w_imul gz_72_12 ⟨by omega, by omega⟩ ?_
                  refine w_aload_n gz_72_13 rfl ?_
                  refine w_getX (v := (x0 + 1)) gz_72_14 t0 rd_8 rfl (by decide) rfl ?_
                  refine w_iload_n gz_72_17 rfl ?_
                  refine w_bipush gz_72_18 (by decide) ?_
                  refine w_imul gz_72_20 ⟨by omega, by omega⟩ ?_
                  refine w_bipush gz_72_21 (by decide) ?_
                  refine w_cpG gz_72_23 (ix_8_1 t0) rd_42 (ix_8_1 t0) rd_42 (by omega) (by omega) (by omega) (by omega) (by omega) rfl (by omega) (fun h34 fh34 => ?_)
                  have gh34 : my_fr [(42, -1)] h h34 := my_fr.cp gh_12_0 (ix_8_1 t0) fh34 rfl
                  have gxh34 : my_fx x0 3 h h34 := my_fx.cp gx_12_0 fh34 (by omega)
                  refine w_vret gz_72_26 gm_72 ?_
                  show wp l rho (d + 2) 79 70 [(2, x0), (0, p2_0), (0, p12_0), (0, 0)] [] h34 Q
                  refine w_iload_n gz_79_70 rfl ?_
                  refine w_istore_n (ls' := [(2, x0), (0, p2_0), (0, p12_0), (0, p2_0)]) gz_79_71 gm_79 rfl rfl rfl ?_
                  exact J72_0 11 (p12_0) (p2_0) h34 (gh34) (gxh34) (by omega) (by omega) (by omega) (by omega) (by omega) (by omega) (by omega) (by omega) (by omega) (by omega) (by omega) (by omega) (((my_cp_role fh34 t0 (ix_8_1 t0) rfl).trans ca0_0_12_0).trans (by omega)) (((my_cp_role fh34 t0 (ix_8_1 t0) rfl).trans ca0_1_12_0).trans (by omega)) (by first | exact SrtB_0 (by omega) (by omega) (by rw [← eh_12_0]; exact fh34) | (have q := SrtB_s (by omega) (by omega) (by omega) sb_72_0 fh34; rw [show p72_1 - 1 = p2_0 by omega] at q; exact q) | assumption | omega) (by first | exact tt_12_0 | exact tu_72_0 | assumption | omega) (by first | exact tl_72_0 | exact Or.inl (by omega) | exact Or.inr (zqCmp_ge cm (by omega)) | assumption | omega) (by omega)
            ·
              show wp l rho (d + 2) 79 25 [(2, x0), (0, p2_0), (0, p12_0), (9, 0)] [(0, v17)] h12_0 Q
              have cm := xp22
              rw [ca0_1_12_0, eka0_1, eh_12_0] at cm
              refine w_istore_n (ls' := [(2, x0), (0, p2_0), (0, p12_0), (0, v17)]) gz_79_25 gm_79 rfl rfl rfl ?_
              refine w_iload_n gz_79_26 rfl ?_
              refine w_ifgt (t := 58) gz_79_27 rfl (fun u35 => ?_) (fun u35 => ?_)
              ·
                refine w_iload_n gz_79_58 rfl ?_
                refine w_iload_n gz_79_59 rfl ?_
                refine w_icge (t := 98) gz_79_60 rfl (fun u36 => ?_) (fun u36 => ?_)
                ·
                  refine w_iinc (ls' := [(2, x0), (0, (p2_0 + 1)), (0, p12_0), (0, v17)]) gz_79_98 rfl gm_79 rfl rfl rfl ⟨by omega, by omega⟩ ?_
                  refine w_goto (t := 2) gz_79_101 rfl ?_
                  refine w_weak (ls' := [(2, x0), (0, (p2_0 + 1)), (9, 0), (9, 0)]) (wk_e (wk_e (wk_9 (wk_9 wk_n)))) ?_
                  exact ih_2_0 ((p2_0 + 1)) h12_0 (gh_12_0) (gx_12_0) (by omega) (by omega) (by omega) (ca0_0_12_0.trans (by omega)) (ca0_1_12_0.trans (by omega)) (by first | exact SrtI_0 | (rw [eh_12_0]; refine SrtI_n (by omega) si_2_0 (Or.inr ?_); have q := zqCmp_ge cm (by omega); rw [show p12_0 = p2_0 by omega] at q; exact q) | exact SrtI_m (by omega) (by omega) (by omega) (by omega) (by omega) si_2_0 tu_72_0 tl_72_0 (by have q := sb_72_0; rw [show v17 = p12_0 by omega] at q; exact q) no_such_copy | assumption | omega) (by omega)
                ·
                  refine w_aload_n gz_79_63 rfl ?_
                  refine w_iload_n gz_79_64 rfl ?_
                  refine w_bipush gz_79_65 (by decide) ?_
                  refine w_inv (k := 0) (as := [(0, 11), (0, p2_0)]) (r := []) (x := x0) (ls0 := [(2, x0), (0, p2_0), (0, 11)]) gz_79_67 gm_72 rfl t0 rd_8 rfl rfl rfl rfl rfl ?_
                  refine w_iload_n gz_72_0 rfl ?_
                  refine w_iload_n gz_72_1 rfl ?_
                  refine w_iceq (t := 26) gz_72_2 rfl (fun u37 => by exfalso; omega) (fun u37 => ?_)
                  refine w_aload_n gz_72_5 rfl ?_
                  refine w_getX (v := (x0 + 1)) gz_72_6 t0 rd_8 rfl (by decide) rfl ?_
                  refine w_iload_n gz_72_9 rfl ?_
                  refine w_bipush gz_72_10 (by decide) ?_
                  refine w_imul gz_72_12 ⟨by omega, by omega⟩ ?_
                  refine w_aload_n gz_72_13 rfl ?_
                  refine w_getX (v := (x0 + 1)) gz_72_14 t0 rd_8 rfl (by decide) rfl ?_
                  refine w_iload_n gz_72_17 rfl ?_
                  refine w_bipush gz_72_18 (by decide) ?_
                  refine w_imul gz_72_20 ⟨by omega, by omega⟩ ?_
                  refine w_bipush gz_72_21 (by decide) ?_
                  refine w_cpG gz_72_23 (ix_8_1 t0) rd_42 (ix_8_1 t0) rd_42 (by omega) (by omega) (by omega) (by omega) (by omega) rfl (by omega) (fun h40 fh40 => ?_)
                  have gh40 : my_fr [(42, -1)] h h40 := my_fr.cp gh_12_0 (ix_8_1 t0) fh40 rfl
                  have gxh40 : my_fx x0 3 h h40 := my_fx.cp gx_12_0 fh40 (by omega)
                  refine w_vret gz_72_26 gm_72 ?_
                  show wp l rho (d + 2) 79 70 [(2, x0), (0, p2_0), (0, p12_0), (0, v17)] [] h40 Q
                  refine w_iload_n gz_79_70 rfl ?_
                  refine w_istore_n (ls' := [(2, x0), (0, p2_0), (0, p12_0), (0, p2_0)]) gz_79_71 gm_79 rfl rfl rfl ?_
                  exact J72_0 11 (p12_0) (p2_0) h40 (gh40) (gxh40) (by omega) (by omega) (by omega) (by omega) (by omega) (by omega) (by omega) (by omega) (by omega) (by omega) (by omega) (by omega) (((my_cp_role fh40 t0 (ix_8_1 t0) rfl).trans ca0_0_12_0).trans (by omega)) (((my_cp_role fh40 t0 (ix_8_1 t0) rfl).trans ca0_1_12_0).trans (by omega)) (by first | exact SrtB_0 (by omega) (by omega) (by rw [← eh_12_0]; exact fh40) | (have q := SrtB_s (by omega) (by omega) (by omega) sb_72_0 fh40; rw [show p72_1 - 1 = p2_0 by omega] at q; exact q) | assumption | omega) (by first | exact tt_12_0 | exact tu_72_0 | assumption | omega) (by first | exact tl_72_0 | exact Or.inl (by omega) | exact Or.inr (zqCmp_ge cm (by omega)) | assumption | omega) (by omega)
              ·
                refine w_iload_n gz_79_30 rfl ?_
                refine w_ifne (t := 52) gz_79_31 rfl (fun u41 => ?_) (fun u41 => ?_)
                ·
                  refine w_iinc (ls' := [(2, x0), (0, p2_0), (0, (p12_0 + (-1))), (0, v17)]) gz_79_52 rfl gm_79 rfl rfl rfl ⟨by omega, by omega⟩ ?_
                  refine w_goto (t := 12) gz_79_55 rfl ?_
                  refine w_weak (ls' := [(2, x0), (0, p2_0), (0, (p12_0 + (-1))), (9, 0)]) (wk_e (wk_e (wk_e (wk_9 wk_n)))) ?_
                  exact ih_12_0 ((p12_0 + (-1))) h12_0 (gh_12_0) (gx_12_0) (by omega) (by omega) (by omega) (by omega) (by omega) (by omega) (by omega) (ca0_0_12_0.trans (by omega)) (ca0_1_12_0.trans (by omega)) (by first | rfl | exact eh_12_0 | assumption | omega) (by first | exact SrtT_0 | (have q := SrtT_s (by omega) tt_12_0 (zqCmp_le cm (by omega)); rw [show p12_0 - 1 = (p12_0 + (-1)) by omega] at q; exact q) | assumption | omega) (by omega)
                ·
                  refine w_aload_n gz_79_34 rfl ?_
                  refine w_iload_n gz_79_35 rfl ?_
                  refine w_inv (k := 0) (as := [(0, p2_0)]) (r := []) (x := x0) (ls0 := [(2, x0), (0, p2_0)]) gz_79_36 gm_75 rfl t0 rd_8 rfl rfl rfl rfl rfl ?_
                  refine w_aload_n gz_75_0 rfl ?_
                  refine w_getX (v := (x0 + 1)) gz_75_1 t0 rd_8 rfl (by decide) rfl ?_
                  refine w_iload_n gz_75_4 rfl ?_
                  refine w_bipush gz_75_5 (by decide) ?_
                  refine w_imul gz_75_7 ⟨by omega, by omega⟩ ?_
                  refine w_bipush gz_75_8 (by decide) ?_
                  refine w_iadd gz_75_10 ⟨by omega, by omega⟩ ?_
                  refine w_gldT gz_75_11 (ix_8_1 t0) rd_42 (by omega) (by omega) (by omega) (fun v43 ev43 pv43 qv43 => ?_)
                  refine w_iret gz_75_12 gm_75 ?_
                  show wp l rho (d + 2) 79 39 [(2, x0), (0, p2_0), (0, p12_0), (0, v17)] [(0, v43)] h12_0 Q
                  refine w_aload_n gz_79_39 rfl ?_
                  refine w_iload_n gz_79_40 rfl ?_
                  refine w_iconst gz_79_41 (by decide) ?_
                  refine w_isub gz_79_42 ⟨by omega, by omega⟩ ?_
                  refine w_inv (k := 0) (as := [(0, (p12_0 - 1))]) (r := [(0, v43)]) (x := x0) (ls0 := [(2, x0), (0, (p12_0 - 1))]) gz_79_43 gm_75 rfl t0 rd_8 rfl rfl rfl rfl rfl ?_
                  refine w_aload_n gz_75_0 rfl ?_
                  refine w_getX (v := (x0 + 1)) gz_75_1 t0 rd_8 rfl (by decide) rfl ?_
                  refine w_iload_n gz_75_4 rfl ?_
                  refine w_bipush gz_75_5 (by decide) ?_
                  refine w_imul gz_75_7 ⟨by omega, by omega⟩ ?_
                  refine w_bipush gz_75_8 (by decide) ?_
                  refine w_iadd gz_75_10 ⟨by omega, by omega⟩ ?_
                  refine w_gldT gz_75_11 (ix_8_1 t0) rd_42 (by omega) (by omega) (by omega) (fun v45 ev45 pv45 qv45 => ?_)
                  refine w_iret gz_75_12 gm_75 ?_
                  show wp l rho (d + 2) 79 46 [(2, x0), (0, p2_0), (0, p12_0), (0, v17)] [(0, v45), (0, v43)] h12_0 Q
                  refine w_iclt (t := 52) gz_79_46 rfl (fun u46 => ?_) (fun u46 => ?_)
                  ·
                    refine w_iinc (ls' := [(2, x0), (0, p2_0), (0, (p12_0 + (-1))), (0, v17)]) gz_79_52 rfl gm_79 rfl rfl rfl ⟨by omega, by omega⟩ ?_
                    refine w_goto (t := 12) gz_79_55 rfl ?_
                    refine w_weak (ls' := [(2, x0), (0, p2_0), (0, (p12_0 + (-1))), (9, 0)]) (wk_e (wk_e (wk_e (wk_9 wk_n)))) ?_
                    exact ih_12_0 ((p12_0 + (-1))) h12_0 (gh_12_0) (gx_12_0) (by omega) (by omega) (by omega) (by omega) (by omega) (by omega) (by omega) (ca0_0_12_0.trans (by omega)) (ca0_1_12_0.trans (by omega)) (by first | rfl | exact eh_12_0 | assumption | omega) (by first | exact SrtT_0 | (have q := SrtT_s (by omega) tt_12_0 (zqCmp_le cm (by omega)); rw [show p12_0 - 1 = (p12_0 + (-1)) by omega] at q; exact q) | assumption | omega) (by omega)
                  ·
                    refine w_goto (t := 58) gz_79_49 rfl ?_
                    refine w_iload_n gz_79_58 rfl ?_
                    refine w_iload_n gz_79_59 rfl ?_
                    refine w_icge (t := 98) gz_79_60 rfl (fun u47 => ?_) (fun u47 => ?_)
                    ·
                      refine w_iinc (ls' := [(2, x0), (0, (p2_0 + 1)), (0, p12_0), (0, v17)]) gz_79_98 rfl gm_79 rfl rfl rfl ⟨by omega, by omega⟩ ?_
                      refine w_goto (t := 2) gz_79_101 rfl ?_
                      refine w_weak (ls' := [(2, x0), (0, (p2_0 + 1)), (9, 0), (9, 0)]) (wk_e (wk_e (wk_9 (wk_9 wk_n)))) ?_
                      exact ih_2_0 ((p2_0 + 1)) h12_0 (gh_12_0) (gx_12_0) (by omega) (by omega) (by omega) (ca0_0_12_0.trans (by omega)) (ca0_1_12_0.trans (by omega)) (by first | exact SrtI_0 | (rw [eh_12_0]; refine SrtI_n (by omega) si_2_0 (Or.inr ?_); have q := zqCmp_ge cm (by omega); rw [show p12_0 = p2_0 by omega] at q; exact q) | exact SrtI_m (by omega) (by omega) (by omega) (by omega) (by omega) si_2_0 tu_72_0 tl_72_0 (by have q := sb_72_0; rw [show v17 = p12_0 by omega] at q; exact q) no_such_copy | assumption | omega) (by omega)
                    ·
                      refine w_aload_n gz_79_63 rfl ?_
                      refine w_iload_n gz_79_64 rfl ?_
                      refine w_bipush gz_79_65 (by decide) ?_
                      refine w_inv (k := 0) (as := [(0, 11), (0, p2_0)]) (r := []) (x := x0) (ls0 := [(2, x0), (0, p2_0), (0, 11)]) gz_79_67 gm_72 rfl t0 rd_8 rfl rfl rfl rfl rfl ?_
                      refine w_iload_n gz_72_0 rfl ?_
                      refine w_iload_n gz_72_1 rfl ?_
                      refine w_iceq (t := 26) gz_72_2 rfl (fun u48 => by exfalso; omega) (fun u48 => ?_)
                      refine w_aload_n gz_72_5 rfl ?_
                      refine w_getX (v := (x0 + 1)) gz_72_6 t0 rd_8 rfl (by decide) rfl ?_
                      refine w_iload_n gz_72_9 rfl ?_
                      refine w_bipush gz_72_10 (by decide) ?_
                      refine w_imul gz_72_12 ⟨by omega, by omega⟩ ?_
                      refine w_aload_n gz_72_13 rfl ?_
                      refine w_getX (v := (x0 + 1)) gz_72_14 t0 rd_8 rfl (by decide) rfl ?_
                      refine w_iload_n gz_72_17 rfl ?_
                      refine w_bipush gz_72_18 (by decide) ?_
                      refine w_imul gz_72_20 ⟨by omega, by omega⟩ ?_
                      refine w_bipush gz_72_21 (by decide) ?_
                      refine w_cpG gz_72_23 (ix_8_1 t0) rd_42 (ix_8_1 t0) rd_42 (by omega) (by omega) (by omega) (by omega) (by omega) rfl (by omega) (fun h51 fh51 => ?_)
                      have gh51 : my_fr [(42, -1)] h h51 := my_fr.cp gh_12_0 (ix_8_1 t0) fh51 rfl
                      have gxh51 : my_fx x0 3 h h51 := my_fx.cp gx_12_0 fh51 (by omega)
                      refine w_vret gz_72_26 gm_72 ?_
                      show wp l rho (d + 2) 79 70 [(2, x0), (0, p2_0), (0, p12_0), (0, v17)] [] h51 Q
                      refine w_iload_n gz_79_70 rfl ?_
                      refine w_istore_n (ls' := [(2, x0), (0, p2_0), (0, p12_0), (0, p2_0)]) gz_79_71 gm_79 rfl rfl rfl ?_
                      exact J72_0 11 (p12_0) (p2_0) h51 (gh51) (gxh51) (by omega) (by omega) (by omega) (by omega) (by omega) (by omega) (by omega) (by omega) (by omega) (by omega) (by omega) (by omega) (((my_cp_role fh51 t0 (ix_8_1 t0) rfl).trans ca0_0_12_0).trans (by omega)) (((my_cp_role fh51 t0 (ix_8_1 t0) rfl).trans ca0_1_12_0).trans (by omega)) (by first | exact SrtB_0 (by omega) (by omega) (by rw [← eh_12_0]; exact fh51) | (have q := SrtB_s (by omega) (by omega) (by omega) sb_72_0 fh51; rw [show p72_1 - 1 = p2_0 by omega] at q; exact q) | assumption | omega) (by first | exact tt_12_0 | exact tu_72_0 | assumption | omega) (by first | exact tl_72_0 | exact Or.inl (by omega) | exact Or.inr (zqCmp_ge cm (by omega)) | assumption | omega) (by omega)
      refine w_iload_n gz_79_2 rfl ?_
      refine w_aload_n gz_79_3 rfl ?_
      refine v_getI (j := 0) gz_79_4 rfl t0 rd_8 rfl (fun v52 ev52 pv52 qv52 => ?_)
      have zv52 := ev52.trans ca0_0_2_0
      refine w_icge (t := 104) gz_79_7 rfl (fun u53 => ?_) (fun u53 => ?_)
      ·
        have ce54 : h2_0 x0 0 = v52 := ev52.symm
        have ce55 : h2_0 x0 1 = ka0_1 := ca0_1_2_0
        exact w_vret gz_79_104 gm_79 (k0 h2_0 (gh_2_0) (gx_2_0) (by first | exact SrtI_w si_2_0 (by omega) | assumption | omega) (by first | exact SrtI_w si_2_0 (by omega) | assumption | omega) (by first | exact SrtI_w si_2_0 (by omega) | assumption | omega))
      ·
        refine w_iload_n gz_79_10 rfl ?_
        refine w_istore_n (ls' := [(2, x0), (0, p2_0), (0, p2_0), (9, 0)]) gz_79_11 gm_79 rfl rfl rfl ?_
        exact J12_0 11 (p2_0) h2_0 (gh_2_0) (gx_2_0) (by omega) (by omega) (by omega) (by omega) (by omega) (by omega) (by omega) (ev52.symm.trans (by omega)) (ca0_1_2_0.trans (by omega)) (by first | rfl | exact eh_12_0 | assumption | omega) (by first | exact SrtT_0 | (have q := SrtT_s (by omega) tt_12_0 (zqCmp_le cm (by omega)); rw [show p12_0 - 1 = p2_0 by omega] at q; exact q) | assumption | omega) (by omega)
  refine w_iconst gz_79_0 (by decide) ?_
  refine w_istore_n (ls' := [(2, x0), (0, 1), (9, 0), (9, 0)]) gz_79_1 gm_79 rfl rfl rfl ?_
  exact J2_0 11 (1) h (my_fr.rf) (my_fx.rf) (by omega) (by omega) (by omega) (eka0_0.symm.trans (by omega)) (eka0_1.symm.trans (by omega)) (by first | exact SrtI_0 | (rw [eh_12_0]; refine SrtI_n (by omega) si_2_0 (Or.inr ?_); have q := zqCmp_ge cm (by omega); rw [show 0 = p2_0 by omega] at q; exact q) | exact SrtI_m (by omega) (by omega) (by omega) (by omega) (by omega) si_2_0 tu_72_0 tl_72_0 (by have q := sb_72_0; rw [show 0 = 0 by omega] at q; exact q) no_such_copy | assumption | omega) (by omega)
end MYNModel_sortShown5
