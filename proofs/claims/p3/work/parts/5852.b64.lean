/-! contracts, printed by wip/gen/gy.py -/
section MYNModel_isWanted6
theorem c_Model_isWanted6 {l : Launch} {rho : Nat → Int32} {d : Nat} {h : my_H} {Q : my_H → my_V → Prop} {x1 x2 : Int} (a1 : 0 ≤ x1) (b1 : x1 ≤ 15) (a2 : 0 ≤ x2) (b2 : x2 ≤ 5) (n_Mw : Mw h) (n_Mw3 : Mw3 h) (n_Rws : Rws h) (n_Fp : Fp h x2) (hlm : LmW h) (hws : WSm h (MWd h x2)) (k0 : ∀ (h' : my_H) (y : Int), my_fr [(10, 27), (10, 32), (10, 33), (10, 37), (73, -1), (74, -1), (75, -1), (76, -1), (77, -1), (78, -1), (79, -1), (80, -1), (81, -1), (82, -1), (83, -1), (84, -1), (85, -1), (86, -1)] h h' → 0 ≤ y → y ≤ 1 → (y = 1 ↔ IsP h x1 x2) → h' 151 33 = mBs h x2 → Q h' (0, y)) : wp l rho (d + 4) 213 0 [(2, 151), (0, x1), (0, x2), (9, 0), (9, 0), (9, 0)] [] h Q := by
  have J26_0 : ∀ (n : Nat) (p26_0 p26_1 p26_2 p26_3 : Int) (h26_0 : my_H), my_fr [(10, 27), (10, 32), (10, 33), (10, 37), (73, -1), (74, -1), (75, -1), (76, -1), (77, -1), (78, -1), (79, -1), (80, -1), (81, -1), (82, -1), (83, -1), (84, -1), (85, -1), (86, -1)] h h26_0 → 0 ≤ p26_0 → p26_0 ≤ 1 → 0 ≤ p26_1 → p26_1 ≤ 10 → 0 ≤ p26_2 → p26_2 ≤ 10 → 0 ≤ p26_3 → p26_3 ≤ 11 → p26_1 ≤ p26_2 → h26_0 151 37 = p26_2 → h26_0 151 46 = p26_3 → Mw h26_0 → Mw3 h26_0 → Rws h26_0 → Fp h26_0 x2 → ((Eqr h26_0 (h26_0 151 37) → IsP h x1 x2) ∧ (Dif h26_0 → ¬ IsP h x1 x2)) → (p26_0 = 1 → Eqr h26_0 p26_1) → (p26_0 = 0 → Dif h26_0) → h26_0 151 33 = mBs h x2 → 11 - p26_1 ≤ (n : Int) → wp l rho (d + 4) 213 26 [(2, 151), (0, x1), (0, x2), (0, p26_0), (0, p26_1), (9, 0)] [] h26_0 Q := by
    intro n
    induction n with
    | zero => intro p26_0 p26_1 p26_2 p26_3 h26_0 gh_26_0 q0_26_0 q1_26_0 q2_26_0 q3_26_0 q4_26_0 q5_26_0 q6_26_0 q7_26_0 q8_26_0 c151_37_26_0 c151_46_26_0 n_Mw_26_0 n_Mw3_26_0 n_Rws_26_0 n_Fp_26_0 iw_26_0 a1_26_0 a0_26_0 b33_26_0 hm_26_0; exfalso; omega
    | succ n ih_26_0 =>
      intro p26_0 p26_1 p26_2 p26_3 h26_0 gh_26_0 q0_26_0 q1_26_0 q2_26_0 q3_26_0 q4_26_0 q5_26_0 q6_26_0 q7_26_0 q8_26_0 c151_37_26_0 c151_46_26_0 n_Mw_26_0 n_Mw3_26_0 n_Rws_26_0 n_Fp_26_0 iw_26_0 a1_26_0 a0_26_0 b33_26_0 hm_26_0
      have J42_0 : ∀ (n : Nat) (p42_0 p42_1 : Int) (h42_0 : my_H), my_fr [(10, 27), (10, 32), (10, 33), (10, 37), (73, -1), (74, -1), (75, -1), (76, -1), (77, -1), (78, -1), (79, -1), (80, -1), (81, -1), (82, -1), (83, -1), (84, -1), (85, -1), (86, -1)] h h42_0 → 0 ≤ p42_0 → p42_0 ≤ 1 → p26_1 ≤ 9 → 0 ≤ p42_1 → p42_1 ≤ 8 → 1 ≤ p26_2 → 1 ≤ p26_0 → p26_1 ≤ (p26_2 - 1) → h42_0 151 37 = p26_2 → h42_0 151 46 = p26_3 → Mw h42_0 → Mw3 h42_0 → Rws h42_0 → Fp h42_0 x2 → ((Eqr h42_0 (h42_0 151 37) → IsP h x1 x2) ∧ (Dif h42_0 → ¬ IsP h x1 x2)) → (p42_0 = 1 → Eqr h42_0 p26_1 ∧ Eqc h42_0 p26_1 p42_1) → (p42_0 = 0 → Dif h42_0) → h42_0 151 33 = mBs h x2 → 9 - p42_1 ≤ (n : Int) → wp l rho (d + 4) 213 42 [(2, 151), (0, x1), (0, x2), (0, p42_0), (0, p26_1), (0, p42_1)] [] h42_0 Q := by
        intro n
        induction n with
        | zero => intro p42_0 p42_1 h42_0 gh_42_0 q0_42_0 q1_42_0 q2_42_0 q3_42_0 q4_42_0 q5_42_0 q6_42_0 q7_42_0 c151_37_42_0 c151_46_42_0 n_Mw_42_0 n_Mw3_42_0 n_Rws_42_0 n_Fp_42_0 iw_42_0 b1_42_0 b0_42_0 b33_42_0 hm_42_0; exfalso; omega
        | succ n ih_42_0 =>
          intro p42_0 p42_1 h42_0 gh_42_0 q0_42_0 q1_42_0 q2_42_0 q3_42_0 q4_42_0 q5_42_0 q6_42_0 q7_42_0 c151_37_42_0 c151_46_42_0 n_Mw_42_0 n_Mw3_42_0 n_Rws_42_0 n_Fp_42_0 iw_42_0 b1_42_0 b0_42_0 b33_42_0 hm_42_0
          refine w_iload gz_213_42 rfl ?_
          refine w_aload_n gz_213_44 rfl ?_
          refine v_getI (j := 27) gz_213_45 rfl is_151 rd_10 rfl (fun v1 ev1 pv1 qv1 => ?_)
          refine w_icge (t := 96) gz_213_48 rfl (fun u2 => ?_) (fun u2 => ?_)
          ·
            refine w_iinc (ls' := [(2, 151), (0, x1), (0, x2), (0, p42_0), (0, (p26_1 + 1)), (0, p42_1)]) gz_213_96 rfl gm_213 rfl rfl rfl ⟨by omega, by omega⟩ ?_
            refine w_goto (t := 26) gz_213_99 rfl ?_
            have ce3 : h42_0 151 37 = p26_2 := c151_37_42_0
            have ce4 : h42_0 151 46 = p26_3 := c151_46_42_0
            have ce5 : h42_0 151 27 = v1 := ev1.symm
            refine w_weak (ls' := [(2, 151), (0, x1), (0, x2), (0, p42_0), (0, (p26_1 + 1)), (9, 0)]) (wk_e (wk_e (wk_e (wk_e (wk_e (wk_9 wk_n)))))) ?_
            exact ih_26_0 (p42_0) ((p26_1 + 1)) (p26_2) (p26_3) h42_0 (gh_42_0) (by omega) (by omega) (by omega) (by omega) (by omega) (by omega) (by omega) (by omega) (by omega) (c151_37_42_0.trans (by omega)) (c151_46_42_0.trans (by omega)) n_Mw_42_0 n_Mw3_42_0 n_Rws_42_0 n_Fp_42_0 (by first | exact iw0 | exact iw_26_0 | exact iw_42_0 | assumption | omega) (by first | (intro z; exfalso; omega) | (intro z; exact Eqr_0 (by omega)) | exact (fun z => Eqr_s (b1_42_0 z).1 (b1_42_0 z).2 (by omega)) | assumption | omega) (by first | (intro z; exfalso; omega) | exact (fun _ => Or.inl (by omega)) | exact b0_42_0 | assumption | omega) (by first | exact b330 | exact b33_26_0 | exact b33_42_0 | assumption | omega) (by omega)
          ·
            refine w_iload_n gz_213_51 rfl ?_
            refine w_ifeq (t := 88) gz_213_52 rfl (fun u6 => ?_) (fun u6 => ?_)
            ·
              refine w_iconst gz_213_88 (by decide) ?_
              refine w_istore_n (ls' := [(2, 151), (0, x1), (0, x2), (0, 0), (0, p26_1), (0, p42_1)]) gz_213_89 gm_213 rfl rfl rfl ?_
              refine w_iinc (ls' := [(2, 151), (0, x1), (0, x2), (0, 0), (0, p26_1), (0, (p42_1 + 1))]) gz_213_90 rfl gm_213 rfl rfl rfl ⟨by omega, by omega⟩ ?_
              refine w_goto (t := 42) gz_213_93 rfl ?_
              have ce7 : h42_0 151 37 = p26_2 := c151_37_42_0
              have ce8 : h42_0 151 46 = p26_3 := c151_46_42_0
              have ce9 : h42_0 151 27 = v1 := ev1.symm
              exact ih_42_0 (0) ((p42_1 + 1)) h42_0 (gh_42_0) (by omega) (by omega) (by omega) (by omega) (by omega) (by omega) (by omega) (by omega) (c151_37_42_0.trans (by omega)) (c151_46_42_0.trans (by omega)) n_Mw_42_0 n_Mw3_42_0 n_Rws_42_0 n_Fp_42_0 (by first | exact iw0 | exact iw_26_0 | exact iw_42_0 | assumption | omega) (by first | (intro z; exfalso; omega) | exact (fun z => ⟨a1_26_0 z, Eqc_0⟩) | exact (fun _ => ⟨(b1_42_0 (by omega)).1, Eqc_s (b1_42_0 (by omega)).2 e182 e189 (by omega)⟩) | assumption | omega) (by first | (intro z; exfalso; omega) | exact a0_26_0 | exact (fun _ => b0_42_0 (by omega)) | exact (fun _ => Dif_c (by omega) (by omega) (by omega) (by omega) e182 e189 (by omega)) | assumption | omega) (by first | exact b330 | exact b33_26_0 | exact b33_42_0 | assumption | omega) (by omega)
            ·
              refine w_aload_n gz_213_55 rfl ?_
              refine w_getX (v := 182) gz_213_56 is_151 rd_10 rfl (by decide) rfl ?_
              refine w_bipush gz_213_59 (by decide) ?_
              refine w_iload gz_213_61 rfl ?_
              refine w_imul gz_213_63 ⟨by omega, by omega⟩ ?_
              refine w_iload gz_213_64 rfl ?_
              refine w_iadd gz_213_66 ⟨by omega, by omega⟩ ?_
              refine w_iald gz_213_67 is_182 rd_81 (by omega) (by omega) (fun v11 ev11 pv11 qv11 => ?_)
              refine w_aload_n gz_213_68 rfl ?_
              refine w_getX (v := 189) gz_213_69 is_151 rd_10 rfl (by decide) rfl ?_
              refine w_bipush gz_213_72 (by decide) ?_
              refine w_iload gz_213_74 rfl ?_
              refine w_imul gz_213_76 ⟨by omega, by omega⟩ ?_
              refine w_iload gz_213_77 rfl ?_
              refine w_iadd gz_213_79 ⟨by omega, by omega⟩ ?_
              refine w_iald gz_213_80 is_189 rd_88 (by omega) (by omega) (fun v13 ev13 pv13 qv13 => ?_)
              have e182 : v11 = h42_0 182 (8 * p26_1 + p42_1) := by omega
              have e189 : v13 = h42_0 189 (8 * p26_1 + p42_1) := by omega
              refine w_icne (t := 88) gz_213_81 rfl (fun u14 => ?_) (fun u14 => ?_)
              ·
                refine w_iconst gz_213_88 (by decide) ?_
                refine w_istore_n (ls' := [(2, 151), (0, x1), (0, x2), (0, 0), (0, p26_1), (0, p42_1)]) gz_213_89 gm_213 rfl rfl rfl ?_
                refine w_iinc (ls' := [(2, 151), (0, x1), (0, x2), (0, 0), (0, p26_1), (0, (p42_1 + 1))]) gz_213_90 rfl gm_213 rfl rfl rfl ⟨by omega, by omega⟩ ?_
                refine w_goto (t := 42) gz_213_93 rfl ?_
                have ce15 : h42_0 151 37 = p26_2 := c151_37_42_0
                have ce16 : h42_0 151 46 = p26_3 := c151_46_42_0
                have ce17 : h42_0 151 27 = v1 := ev1.symm
                exact ih_42_0 (0) ((p42_1 + 1)) h42_0 (gh_42_0) (by omega) (by omega) (by omega) (by omega) (by omega) (by omega) (by omega) (by omega) (c151_37_42_0.trans (by omega)) (c151_46_42_0.trans (by omega)) n_Mw_42_0 n_Mw3_42_0 n_Rws_42_0 n_Fp_42_0 (by first | exact iw0 | exact iw_26_0 | exact iw_42_0 | assumption | omega) (by first | (intro z; exfalso; omega) | exact (fun z => ⟨a1_26_0 z, Eqc_0⟩) | exact (fun _ => ⟨(b1_42_0 (by omega)).1, Eqc_s (b1_42_0 (by omega)).2 e182 e189 (by omega)⟩) | assumption | omega) (by first | (intro z; exfalso; omega) | exact a0_26_0 | exact (fun _ => b0_42_0 (by omega)) | exact (fun _ => Dif_c (by omega) (by omega) (by omega) (by omega) e182 e189 (by omega)) | assumption | omega) (by first | exact b330 | exact b33_26_0 | exact b33_42_0 | assumption | omega) (by omega)
              ·
                refine w_iconst gz_213_84 (by decide) ?_
                refine w_goto (t := 89) gz_213_85 rfl ?_
                refine w_istore_n (ls' := [(2, 151), (0, x1), (0, x2), (0, 1), (0, p26_1), (0, p42_1)]) gz_213_89 gm_213 rfl rfl rfl ?_
                refine w_iinc (ls' := [(2, 151), (0, x1), (0, x2), (0, 1), (0, p26_1), (0, (p42_1 + 1))]) gz_213_90 rfl gm_213 rfl rfl rfl ⟨by omega, by omega⟩ ?_
                refine w_goto (t := 42) gz_213_93 rfl ?_
                have ce18 : h42_0 151 37 = p26_2 := c151_37_42_0
                have ce19 : h42_0 151 46 = p26_3 := c151_46_42_0
                have ce20 : h42_0 151 27 = v1 := ev1.symm
                exact ih_42_0 (1) ((p42_1 + 1)) h42_0 (gh_42_0) (by omega) (by omega) (by omega) (by omega) (by omega) (by omega) (by omega) (by omega) (c151_37_42_0.trans (by omega)) (c151_46_42_0.trans (by omega)) n_Mw_42_0 n_Mw3_42_0 n_Rws_42_0 n_Fp_42_0 (by first | exact iw0 | exact iw_26_0 | exact iw_42_0 | assumption | omega) (by first | (intro z; exfalso; omega) | exact (fun z => ⟨a1_26_0 z, Eqc_0⟩) | exact (fun _ => ⟨(b1_42_0 (by omega)).1, Eqc_s (b1_42_0 (by omega)).2 e182 e189 (by omega)⟩) | assumption | omega) (by first | (intro z; exfalso; omega) | exact a0_26_0 | exact (fun _ => b0_42_0 (by omega)) | exact (fun _ => Dif_c (by omega) (by omega) (by omega) (by omega) e182 e189 (by omega)) | assumption | omega) (by first | exact b330 | exact b33_26_0 | exact b33_42_0 | assumption | omega) (by omega)
      refine w_iload gz_213_26 rfl ?_
      refine w_aload_n gz_213_28 rfl ?_
      refine v_getI (j := 37) gz_213_29 rfl is_151 rd_10 rfl (fun v21 ev21 pv21 qv21 => ?_)
      have zv21 := ev21.trans c151_37_26_0
      refine w_icge (t := 102) gz_213_32 rfl (fun u22 => ?_) (fun u22 => ?_)
      ·
        refine w_iload_n gz_213_102 rfl ?_
        exact w_bret gz_213_103 gm_213 (by omega) (by omega) (k0 h26_0 (p26_0) (gh_26_0) (by omega) (by omega) (by first | exact b33_26_0 | exact IsE iw_26_0 a1_26_0 a0_26_0 (by omega) (by omega) (fun z => by omega) | assumption | omega) (by first | exact b33_26_0 | exact IsE iw_26_0 a1_26_0 a0_26_0 (by omega) (by omega) (fun z => by omega) | assumption | omega))
      ·
        refine w_iload_n gz_213_35 rfl ?_
        refine w_ifeq (t := 102) gz_213_36 rfl (fun u23 => ?_) (fun u23 => ?_)
        ·
          refine w_iload_n gz_213_102 rfl ?_
          exact w_bret gz_213_103 gm_213 (by omega) (by omega) (k0 h26_0 (p26_0) (gh_26_0) (by omega) (by omega) (by first | exact b33_26_0 | exact IsE iw_26_0 a1_26_0 a0_26_0 (by omega) (by omega) (fun z => by omega) | assumption | omega) (by first | exact b33_26_0 | exact IsE iw_26_0 a1_26_0 a0_26_0 (by omega) (by omega) (fun z => by omega) | assumption | omega))
        ·
          refine w_iconst gz_213_39 (by decide) ?_
          refine w_istore (ls' := [(2, 151), (0, x1), (0, x2), (0, p26_0), (0, p26_1), (0, 0)]) gz_213_40 gm_213 rfl rfl rfl ?_
          have ce24 : h26_0 151 37 = v21 := ev21.symm
          have ce25 : h26_0 151 46 = p26_3 := c151_46_26_0
          exact J42_0 9 (p26_0) (0) h26_0 (gh_26_0) (by omega) (by omega) (by omega) (by omega) (by omega) (by omega) (by omega) (by omega) (ev21.symm.trans (by omega)) (c151_46_26_0.trans (by omega)) n_Mw_26_0 n_Mw3_26_0 n_Rws_26_0 n_Fp_26_0 (by first | exact iw0 | exact iw_26_0 | exact iw_42_0 | assumption | omega) (by first | (intro z; exfalso; omega) | exact (fun z => ⟨a1_26_0 z, Eqc_0⟩) | exact (fun _ => ⟨(b1_42_0 (by omega)).1, Eqc_s (b1_42_0 (by omega)).2 e182 e189 (by omega)⟩) | assumption | omega) (by first | (intro z; exfalso; omega) | exact a0_26_0 | exact (fun _ => b0_42_0 (by omega)) | exact (fun _ => Dif_c (by omega) (by omega) (by omega) (by omega) e182 e189 (by omega)) | assumption | omega) (by first | exact b330 | exact b33_26_0 | exact b33_42_0 | assumption | omega) (by omega)
  refine w_aload_n gz_213_0 rfl ?_
  refine w_iload_n gz_213_1 rfl ?_
  refine w_iload_n gz_213_2 rfl ?_
  refine w_inv (k := 5) (as := [(0, x2), (0, x1)]) (r := []) (x := 151) (ls0 := [(2, 151), (0, x1), (0, x2), (9, 0), (9, 0), (9, 0), (9, 0), (9, 0)]) gz_213_3 gm_194 rfl is_151 rd_10 rfl rfl rfl rfl rfl (c_Model_shows5 (d := d) (x1 := x1) (x2 := x2) (by omega) (by omega) (by omega) (by omega) n_Mw n_Mw3 n_Rws (by first | assumption | exact n_Fp | exact Fp_told (by omega) (by omega) | omega | (subst_vars; omega) | omega) (fun h26 frh26 xp27 xp28 xp29 xp30 => ?_))
  have gh26 : my_fr [(10, 27), (10, 32), (10, 33), (10, 37), (73, -1), (74, -1), (75, -1), (76, -1), (77, -1), (78, -1), (79, -1), (80, -1), (81, -1), (82, -1), (83, -1), (84, -1), (85, -1), (86, -1)] h h26 := my_fr.tr my_fr.rf (frh26.mo rfl)
  have Mw_h26 : Mw h26 := Mw_ag (my_ag.fr frh26 rfl) n_Mw
  have Mw3_h26 : Mw3 h26 := Mw3_ag (my_ag.fr frh26 rfl) n_Mw3
  have Rws_h26 : Rws h26 := Rws_ag (my_ag.fr frh26 rfl) n_Rws
  have Fp_h26 : Fp h26 x2 := Fp_ag (my_ag.fr frh26 rfl) n_Fp
  show wp l rho (d + 4) 213 6 [(2, 151), (0, x1), (0, x2), (9, 0), (9, 0), (9, 0)] [] h26 Q
  have t8 : h 164 x2 = 1 := n_Fp.1 (by omega)
  have w8 := LmW_8 hlm (by omega) (by omega) t8
  have wc8 := WLm_cg (W := MWd h x2) (g := h26) (h := h) (my_fr.at gh26 pis_151 rfl) (fun j => my_fr.at gh26 pis_189 rfl)
  have iw0 : (Eqr h26 (h26 151 37) → IsP h x1 x2) ∧ (Dif h26 → ¬ IsP h x1 x2) := by
    unfold IsP
    rw [← wc8.1]
    exact IsW xp28 xp29 (wc8.2 hws) w8.2
  have b330 := xp30
  refine w_aload_n gz_213_6 rfl ?_
  refine v_getI (j := 37) gz_213_7 rfl is_151 rd_10 rfl (fun v31 ev31 pv31 qv31 => ?_)
  refine w_aload_n gz_213_10 rfl ?_
  refine v_getI (j := 46) gz_213_11 rfl is_151 rd_10 rfl (fun v32 ev32 pv32 qv32 => ?_)
  refine w_icne (t := 21) gz_213_14 rfl (fun u33 => ?_) (fun u33 => ?_)
  ·
    refine w_iconst gz_213_21 (by decide) ?_
    refine w_istore_n (ls' := [(2, 151), (0, x1), (0, x2), (0, 0), (9, 0), (9, 0)]) gz_213_22 gm_213 rfl rfl rfl ?_
    refine w_iconst gz_213_23 (by decide) ?_
    refine w_istore (ls' := [(2, 151), (0, x1), (0, x2), (0, 0), (0, 0), (9, 0)]) gz_213_24 gm_213 rfl rfl rfl ?_
    have ce34 : h26 151 37 = v31 := ev31.symm
    have ce35 : h26 151 46 = v32 := ev32.symm
    exact J26_0 11 (0) (0) (v31) (v32) h26 (gh26) (by omega) (by omega) (by omega) (by omega) (by omega) (by omega) (by omega) (by omega) (by omega) (ev31.symm.trans (by omega)) (ev32.symm.trans (by omega)) Mw_h26 Mw3_h26 Rws_h26 Fp_h26 (by first | exact iw0 | exact iw_26_0 | exact iw_42_0 | assumption | omega) (by first | (intro z; exfalso; omega) | (intro z; exact Eqr_0 (by omega)) | exact (fun z => Eqr_s (b1_42_0 z).1 (b1_42_0 z).2 (by omega)) | assumption | omega) (by first | (intro z; exfalso; omega) | exact (fun _ => Or.inl (by omega)) | exact b0_42_0 | assumption | omega) (by first | exact b330 | exact b33_26_0 | exact b33_42_0 | assumption | omega) (by omega)
  ·
    refine w_iconst gz_213_17 (by decide) ?_
    refine w_goto (t := 22) gz_213_18 rfl ?_
    refine w_istore_n (ls' := [(2, 151), (0, x1), (0, x2), (0, 1), (9, 0), (9, 0)]) gz_213_22 gm_213 rfl rfl rfl ?_
    refine w_iconst gz_213_23 (by decide) ?_
    refine w_istore (ls' := [(2, 151), (0, x1), (0, x2), (0, 1), (0, 0), (9, 0)]) gz_213_24 gm_213 rfl rfl rfl ?_
    have ce36 : h26 151 37 = v31 := ev31.symm
    have ce37 : h26 151 46 = v32 := ev32.symm
    exact J26_0 11 (1) (0) (v31) (v32) h26 (gh26) (by omega) (by omega) (by omega) (by omega) (by omega) (by omega) (by omega) (by omega) (by omega) (ev31.symm.trans (by omega)) (ev32.symm.trans (by omega)) Mw_h26 Mw3_h26 Rws_h26 Fp_h26 (by first | exact iw0 | exact iw_26_0 | exact iw_42_0 | assumption | omega) (by first | (intro z; exfalso; omega) | (intro z; exact Eqr_0 (by omega)) | exact (fun z => Eqr_s (b1_42_0 z).1 (b1_42_0 z).2 (by omega)) | assumption | omega) (by first | (intro z; exfalso; omega) | exact (fun _ => Or.inl (by omega)) | exact b0_42_0 | assumption | omega) (by first | exact b330 | exact b33_26_0 | exact b33_42_0 | assumption | omega) (by omega)
theorem c_Model_comes6 {l : Launch} {rho : Nat → Int32} {d : Nat} {h : my_H} {Q : my_H → my_V → Prop} {x1 x2 : Int} (a1 : 0 ≤ x1) (b1 : x1 ≤ 15) (a2 : 0 ≤ x2) (b2 : x2 ≤ 5) (n_Mw : Mw h) (n_Rws : Rws h) (hfp : Fp h x2) (hlm : LmW h) (k0 : ∀ (h' : my_H), my_fr [(10, 27), (10, 32), (10, 33), (61, -1), (62, -1), (73, -1), (74, -1), (75, -1), (76, -1), (77, -1), (78, -1), (79, -1), (94, -1)] h h' → ¬ CmOk h x1 x2 → ((∀ j : Int, h' 162 j = h 162 j) ∧ ∀ j : Int, h' 163 j = h 163 j) → Rws h' → Q h' (0, 0)) (k1 : ∀ (h' : my_H), my_fr [(10, 27), (10, 32), (10, 33), (61, -1), (62, -1), (73, -1), (74, -1), (75, -1), (76, -1), (77, -1), (78, -1), (79, -1), (94, -1)] h h' → CmOk h x1 x2 → LyP h h' (60 * x1 + 20 * mBs h x2 + cmM h x2 0) (cmM h x2 0) (cmM h x2 1) (cmM h x2 2) (cmM h x2 3) → 0 ≤ cmM h x2 0 ∧ cmM h x2 0 ≤ 19 → h' 151 33 = mBs h x2 ∧ h' 195 0 = cmM h x2 0 → Rws h' → Q h' (0, 1)) : wp l rho (d + 3) 216 0 [(2, 151), (0, x1), (0, x2)] [] h Q := by
  have tx : h 164 x2 = 1 := hfp.1 (by omega)
  have lm0 := hlm _ a2 b2 tx
  refine w_aload_n gz_216_0 rfl ?_
  refine w_iload_n gz_216_1 rfl ?_
  refine w_inv (k := 2) (as := [(0, x2)]) (r := []) (x := 151) (ls0 := [(2, 151), (0, x2), (9, 0), (9, 0)]) gz_216_2 gm_217 rfl is_151 rd_10 rfl rfl rfl rfl rfl (c_Model_findComing5 (d := d) (x1 := x2) (by omega) (by omega) n_Mw (by first | assumption | exact no_such_saying | exact Fp_told (by omega) (by omega) | omega | (subst_vars; omega) | omega) (by first | assumption | exact no_such_saying | exact Fp_told (by omega) (by omega) | omega | (subst_vars; omega) | omega) (fun h1 frh1 xp2 xp3 => ?_))
  have gh1 : my_fr [(10, 27), (10, 32), (10, 33), (61, -1), (62, -1), (73, -1), (74, -1), (75, -1), (76, -1), (77, -1), (78, -1), (79, -1), (94, -1)] h h1 := my_fr.tr my_fr.rf (frh1.mo rfl)
  have Mw_h1 : Mw h1 := Mw_ag (my_ag.fr frh1 rfl) n_Mw
  have Rws_h1 : Rws h1 := Rws_ag (my_ag.fr frh1 rfl) n_Rws
  show wp l rho (d + 3) 216 5 [(2, 151), (0, x1), (0, x2)] [] h1 Q
  have cm := xp2
  have b3 := xp3
  refine v_knowA (x := 195) pis_195 rd_94 (fun kM => ?_)
  have km := kM 0 (by omega) (by omega)
  have cm0 := cm 0 (by omega) (by omega)
  have cm1 := cm 1 (by omega) (by omega)
  have cm2 := cm 2 (by omega) (by omega)
  have cm3 := cm 3 (by omega) (by omega)
  have e162 : ∀ j : Int, h1 162 j = h 162 j := fun j => my_fr.at frh1 pis_162 rfl
  have e163 : ∀ j : Int, h1 163 j = h 163 j := fun j => my_fr.at frh1 pis_163 rfl
  refine w_aload_n gz_216_5 rfl ?_
  refine w_getX (v := 162) gz_216_6 is_151 rd_10 rfl (by decide) rfl ?_
  refine w_iload_n gz_216_9 rfl ?_
  refine w_aload_n gz_216_10 rfl ?_
  refine v_getI (j := 33) gz_216_11 rfl is_151 rd_10 rfl (fun v5 ev5 pv5 qv5 => ?_)
  refine w_aload_n gz_216_14 rfl ?_
  refine w_getX (v := 195) gz_216_15 is_151 rd_10 rfl (by decide) rfl ?_
  refine w_iconst gz_216_18 (by decide) ?_
  refine w_iald gz_216_19 is_195 rd_94 (by omega) (by omega) (fun v7 ev7 pv7 qv7 => ?_)
  refine w_inS (k := 0) (as := [(0, v7), (0, v5), (0, x1)]) (r := [(2, 162)]) (ls0 := [(0, x1), (0, v5), (0, v7)]) gz_216_20 gm_150 rfl rfl rfl rfl rfl rfl ?_
  refine w_bipush gz_150_0 (by decide) ?_
  refine w_iload_n gz_150_2 rfl ?_
  refine w_imul gz_150_3 ⟨by omega, by omega⟩ ?_
  refine w_bipush gz_150_4 (by decide) ?_
  refine w_iload_n gz_150_6 rfl ?_
  refine w_imul gz_150_7 ⟨by omega, by omega⟩ ?_
  refine w_iadd gz_150_8 ⟨by omega, by omega⟩ ?_
  refine w_iload_n gz_150_9 rfl ?_
  refine w_iadd gz_150_10 ⟨by omega, by omega⟩ ?_
  refine w_iret gz_150_11 gm_150 ?_
  show wp l rho (d + 3) 216 23 [(2, 151), (0, x1), (0, x2)] [(0, (((60 * x1) + (20 * v5)) + v7)), (2, 162)] h1 Q
  refine w_bald gz_216_23 is_162 rd_61 (by omega) (by omega) (fun v8 ev8 pv8 qv8 => ?_)
  refine v_knowA (x := 162) pis_162 rd_61 (fun kT => ?_)
  refine v_knowA (x := 163) pis_163 rd_62 (fun kV => ?_)
  refine v_knowA (x := 160) pis_160 rd_59 (fun kN => ?_)
  refine v_knowA (x := 157) pis_157 rd_56 (fun kC => ?_)
  have T8 : MTy h := ⟨fun j a b => by rw [← e163]; exact kV j a b, fun j a b => by rw [← e162]; exact kT j a b, fun j a b => by rw [← my_fr.at (j := j) gh1 pis_160 rfl]; exact kN j a b, fun j a b => by rw [← my_fr.at (j := j) gh1 pis_157 rfl]; exact kC j a b⟩
  have it8 : v8 = h 162 (60 * x1 + 20 * (mBs h x2) + cmM h x2 0) := by
    rw [← e162, show 60 * x1 + 20 * (mBs h x2) + cmM h x2 0 = (((60 * x1) + (20 * v5)) + v7) by omega]
    omega
  have okI := CmOk_i (t := v8) (n := 0) T8 a1 b1 lm0.2.1 lm0.2.2.1 cm0 km.1 km.2 (by rw [cm0]; exact it8) (n_Rws x1 (mBs h x2) (by omega) (by omega) lm0.2.1 lm0.2.2.1)
  refine w_ifne (t := 41) gz_216_24 rfl (fun u9 => ?_) (fun u9 => ?_)
  ·
    refine w_iconst gz_216_41 (by decide) ?_
    have ce10 : h1 151 33 = v5 := ev5.symm
    have f195 : ∀ j : Int, h1 195 j = h1 195 j := fun j => rfl
    exact w_bret gz_216_42 gm_216 (by omega) (by omega) (k0 h1 (gh1) (by first | exact ⟨by omega, (f195 0).trans cm0⟩ | exact okI.1 (by omega) | exact okI.2.1 (by omega) | exact ⟨e162, e163⟩ | exact okI.2.2 (by omega) (by omega) | exact ly | exact ⟨by omega, by omega⟩ | assumption | omega) (by first | exact ⟨by omega, (f195 0).trans cm0⟩ | exact okI.1 (by omega) | exact okI.2.1 (by omega) | exact ⟨e162, e163⟩ | exact okI.2.2 (by omega) (by omega) | exact ly | exact ⟨by omega, by omega⟩ | assumption | omega) Rws_h1)
  ·
    refine w_aload_n gz_216_27 rfl ?_
    refine w_iload_n gz_216_28 rfl ?_
    refine w_aload_n gz_216_29 rfl ?_
    refine v_getI (j := 33) gz_216_30 rfl is_151 rd_10 rfl (fun v11 ev11 pv11 qv11 => ?_)
    have zv11 := ev11.trans ev5.symm
    refine w_inv (k := 2) (as := [(0, v11), (0, x1)]) (r := []) (x := 151) (ls0 := [(2, 151), (0, x1), (0, v11), (9, 0), (9, 0)]) gz_216_33 gm_151 rfl is_151 rd_10 rfl rfl rfl rfl rfl (c_Model_rowsOf2 (d := (d + 1)) (x1 := x1) (x2 := v11) (by omega) (by omega) (by omega) (by omega) (fun v12 w13 w14 xp15 => ?_))
    show wp l rho (d + 3) 216 36 [(2, 151), (0, x1), (0, x2)] [(0, v12)] h1 Q
    have ry := xp15
    have rb := (Rws_h1) x1 v11 (by omega) (by omega) (by omega) (by omega)
    have rq : v12 ≠ 10 → ∀ w : Int, w = v11 → rc h1 (60 * x1 + 20 * w) 20 ≤ 9 := fun y w q => by rw [q]; omega
    have ry8 : v12 = rc h (60 * x1 + 20 * (mBs h x2)) 20 := by
      have q := xp15
      rw [show v11 = mBs h x2 by omega] at q
      rw [q]
      exact rc_cg9 e162 20
    refine w_bipush gz_216_36 (by decide) ?_
    refine w_icne (t := 43) gz_216_38 rfl (fun u16 => ?_) (fun u16 => ?_)
    ·
      refine w_aload_n gz_216_43 rfl ?_
      refine w_iload_n gz_216_44 rfl ?_
      refine w_aload_n gz_216_45 rfl ?_
      refine v_getI (j := 33) gz_216_46 rfl is_151 rd_10 rfl (fun v17 ev17 pv17 qv17 => ?_)
      have zv17 := ev17.trans ev11.symm
      refine w_aload_n gz_216_49 rfl ?_
      refine w_getX (v := 195) gz_216_50 is_151 rd_10 rfl (by decide) rfl ?_
      refine w_iconst gz_216_53 (by decide) ?_
      refine w_iald gz_216_54 is_195 rd_94 (by omega) (by omega) (fun v19 ev19 pv19 qv19 => ?_)
      have zv19 := ev19.trans ev7.symm
      refine w_aload_n gz_216_55 rfl ?_
      refine w_getX (v := 195) gz_216_56 is_151 rd_10 rfl (by decide) rfl ?_
      refine w_iconst gz_216_59 (by decide) ?_
      refine w_iald gz_216_60 is_195 rd_94 (by omega) (by omega) (fun v21 ev21 pv21 qv21 => ?_)
      refine w_aload_n gz_216_61 rfl ?_
      refine w_getX (v := 195) gz_216_62 is_151 rd_10 rfl (by decide) rfl ?_
      refine w_iconst gz_216_65 (by decide) ?_
      refine w_iald gz_216_66 is_195 rd_94 (by omega) (by omega) (fun v23 ev23 pv23 qv23 => ?_)
      refine w_aload_n gz_216_67 rfl ?_
      refine w_getX (v := 195) gz_216_68 is_151 rd_10 rfl (by decide) rfl ?_
      refine w_iconst gz_216_71 (by decide) ?_
      refine w_iald gz_216_72 is_195 rd_94 (by omega) (by omega) (fun v25 ev25 pv25 qv25 => ?_)
      refine w_inv (k := 1) (as := [(0, v25), (0, v23), (0, v21), (0, v19), (0, v17), (0, x1)]) (r := []) (x := 151) (ls0 := [(2, 151), (0, x1), (0, v17), (0, v19), (0, v21), (0, v23), (0, v25), (9, 0)]) gz_216_73 gm_153 rfl is_151 rd_10 rfl rfl rfl rfl rfl (c_Model_lays5 (d := (d + 1)) (x1 := x1) (x2 := v17) (x3 := v19) (x4 := v21) (x5 := v23) (x6 := v25) (by omega) (by omega) (by omega) (by omega) (by omega) (by omega) (by omega) (by omega) (by omega) (by omega) (by omega) (by omega) Rws_h1 (rq (by omega) _ (by omega)) (fun h26 frh26 xp27 Rws_h26t28 => ?_))
      have gh26 : my_fr [(10, 27), (10, 32), (10, 33), (61, -1), (62, -1), (73, -1), (74, -1), (75, -1), (76, -1), (77, -1), (78, -1), (79, -1), (94, -1)] h h26 := my_fr.tr gh1 (frh26.mo rfl)
      have Mw_h26 : Mw h26 := Mw_ag (my_ag.fr frh26 rfl) Mw_h1
      show wp l rho (d + 3) 216 76 [(2, 151), (0, x1), (0, x2)] [] h26 Q
      have ly := LyP_cg e162 e163 xp27
      rw [show v21 = cmM h x2 1 by omega, show v23 = cmM h x2 2 by omega, show v25 = cmM h x2 3 by omega, show v19 = cmM h x2 0 by omega, show v17 = mBs h x2 by omega] at ly
      refine w_iconst gz_216_76 (by decide) ?_
      have ce29 : h26 151 33 = v17 := ((my_fr.at frh26 is_151 rfl).trans ev17.symm)
      have f195 : ∀ j : Int, h26 195 j = h1 195 j := fun j => ((my_fr.at frh26 is_195 rfl).trans (rfl : h1 195 j = h1 195 j))
      exact w_bret gz_216_77 gm_216 (by omega) (by omega) (k1 h26 (gh26) (by first | exact ⟨by omega, (f195 0).trans cm0⟩ | exact okI.1 (by omega) | exact okI.2.1 (by omega) | exact ⟨e162, e163⟩ | exact okI.2.2 (by omega) (by omega) | exact ly | exact ⟨by omega, by omega⟩ | assumption | omega) (by first | exact ⟨by omega, (f195 0).trans cm0⟩ | exact okI.1 (by omega) | exact okI.2.1 (by omega) | exact ⟨e162, e163⟩ | exact okI.2.2 (by omega) (by omega) | exact ly | exact ⟨by omega, by omega⟩ | assumption | omega) (by first | exact ⟨by omega, (f195 0).trans cm0⟩ | exact okI.1 (by omega) | exact okI.2.1 (by omega) | exact ⟨e162, e163⟩ | exact okI.2.2 (by omega) (by omega) | exact ly | exact ⟨by omega, by omega⟩ | assumption | omega) (by first | exact ⟨by omega, (f195 0).trans cm0⟩ | exact okI.1 (by omega) | exact okI.2.1 (by omega) | exact ⟨e162, e163⟩ | exact okI.2.2 (by omega) (by omega) | exact ly | exact ⟨by omega, by omega⟩ | assumption | omega) Rws_h26t28)
    ·
      refine w_iconst gz_216_41 (by decide) ?_
      have ce30 : h1 151 33 = v11 := ev11.symm
      have f195 : ∀ j : Int, h1 195 j = h1 195 j := fun j => rfl
      exact w_bret gz_216_42 gm_216 (by omega) (by omega) (k0 h1 (gh1) (by first | exact ⟨by omega, (f195 0).trans cm0⟩ | exact okI.1 (by omega) | exact okI.2.1 (by omega) | exact ⟨e162, e163⟩ | exact okI.2.2 (by omega) (by omega) | exact ly | exact ⟨by omega, by omega⟩ | assumption | omega) (by first | exact ⟨by omega, (f195 0).trans cm0⟩ | exact okI.1 (by omega) | exact okI.2.1 (by omega) | exact ⟨e162, e163⟩ | exact okI.2.2 (by omega) (by omega) | exact ly | exact ⟨by omega, by omega⟩ | assumption | omega) Rws_h1)
end MYNModel_isWanted6
