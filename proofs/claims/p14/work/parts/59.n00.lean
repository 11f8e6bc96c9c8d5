/-! contracts, printed by wip/gen/gy.py -/
section MYNModel_findChain_f0
theorem c_Model_findChain_f0 {l : Launch} {rho : Nat → Int32} {d : Nat} {h : my_H} {Q : my_H → my_V → Prop} {x1 : Int} (a1 : 0 ≤ x1) (b1 : x1 ≤ 6) (cf : h 151 8 = 0) (n_Mw : Mw h) (hfp : Fp h x1) (k0 : ∀ (h' : my_H), my_fr [(10, 32), (10, 33), (76, -1)] h h' → h' 151 8 = 0 → Fc h h' (h' 151 32) (-1) x1 → 1 ≤ h' 151 32 → h' 151 32 ≤ 6 → Q h' (9, 0)) : wp l rho d 180 0 [(2, 151), (0, x1), (9, 0), (9, 0)] [] h Q := by
  have J7_0 : ∀ (n : Nat) (p7_0 p7_1 : Int) (h7_0 : my_H), my_fr [(10, 32), (10, 33), (76, -1)] h h7_0 → (-1) ≤ p7_0 → p7_0 ≤ 6 → 0 ≤ p7_1 → p7_1 ≤ 6 → h7_0 151 32 = p7_1 → h7_0 151 8 = 0 → Mw h7_0 → Fc h h7_0 (h7_0 151 32) p7_0 x1 → (0 ≤ p7_0 → h7_0 151 32 ≤ 5) → (p7_0 < 0 → p7_0 = -1 ∧ 1 ≤ h7_0 151 32) → 7 - h7_0 151 32 ≤ (n : Int) → wp l rho d 180 7 [(2, 151), (0, x1), (0, p7_0), (9, 0)] [] h7_0 Q := by
    intro n
    induction n with
    | zero => intro p7_0 p7_1 h7_0 gh_7_0 q0_7_0 q1_7_0 q2_7_0 q3_7_0 c151_32_7_0 c151_8_7_0 n_Mw_7_0 fc_7_0 cb_7_0 cl_7_0 hm_7_0; exfalso; omega
    | succ n ih_7_0 =>
      intro p7_0 p7_1 h7_0 gh_7_0 q0_7_0 q1_7_0 q2_7_0 q3_7_0 c151_32_7_0 c151_8_7_0 n_Mw_7_0 fc_7_0 cb_7_0 cl_7_0 hm_7_0
      have J16_0 : ∀ (n : Nat) (p16_0 : Int) (h16_0 : my_H), my_fr [(10, 32), (10, 33), (76, -1)] h h16_0 → 0 ≤ p7_0 → 0 ≤ p16_0 → p16_0 ≤ 6 → p16_0 ≤ p7_1 → h16_0 151 32 = p7_1 → h16_0 151 8 = 0 → Mw h16_0 → (∀ j : Int, 0 ≤ j → j ≤ h7_0 151 32 → h16_0 177 j = (if p16_0 < j then h7_0 177 (j - 1) else h7_0 177 j)) → h16_0 151 32 = h7_0 151 32 → p16_0 ≤ h7_0 151 32 → p16_0 - (-1) ≤ (n : Int) → wp l rho d 180 16 [(2, 151), (0, x1), (0, p7_0), (0, p16_0)] [] h16_0 Q := by
        intro n
        induction n with
        | zero => intro p16_0 h16_0 gh_16_0 q0_16_0 q1_16_0 q2_16_0 q3_16_0 c151_32_16_0 c151_8_16_0 n_Mw_16_0 sh_16_0 ca_16_0 l3c_16_0 hm_16_0; exfalso; omega
        | succ n ih_16_0 =>
          intro p16_0 h16_0 gh_16_0 q0_16_0 q1_16_0 q2_16_0 q3_16_0 c151_32_16_0 c151_8_16_0 n_Mw_16_0 sh_16_0 ca_16_0 l3c_16_0 hm_16_0
          refine w_iload_n gz_180_16 rfl ?_
          refine w_ifle (t := 40) gz_180_17 rfl (fun u1 => ?_) (fun u1 => ?_)
          ·
            refine w_aload_n gz_180_40 rfl ?_
            refine w_getX (v := 177) gz_180_41 is_151 rd_10 rfl (by decide) rfl ?_
            refine w_iconst gz_180_44 (by decide) ?_
            refine w_iload_n gz_180_45 rfl ?_
            refine w_iast gz_180_46 is_177 rd_76 (by omega) (by omega) (by omega) (by omega) (fun h3 fh3 => ?_)
            have gh3 : my_fr [(10, 32), (10, 33), (76, -1)] h h3 := my_fr.up gh_16_0 is_177 fh3 rfl
            have Mw_h3 : Mw h3 := Mw_ag (my_ag.up fh3 is_177 rfl) n_Mw_16_0
            have e0 : h3 177 0 = p7_0 := my_up_self fh3
            have ej : ∀ j : Int, 0 < j → j ≤ h7_0 151 32 → h3 177 j = h7_0 177 (j - 1) := fun j a b => by rw [my_up_ne fh3 (by omega), sh_16_0 j (by omega) b, if_pos (by omega)]
            refine w_aload_n gz_180_47 rfl ?_
            refine w_dup gz_180_48 rfl ?_
            refine v_getI (j := 32) gz_180_49 rfl is_151 rd_10 rfl (fun v4 ev4 pv4 qv4 => ?_)
            have zv4 := ev4.trans ((my_up_role fh3 is_151 is_177 rfl).trans c151_32_16_0)
            refine w_iconst gz_180_52 (by decide) ?_
            refine w_iadd gz_180_53 ⟨by omega, by omega⟩ ?_
            have hi5 : 0 ≤ (v4 + 1) := by omega
            have hi6 : (v4 + 1) ≤ 6 := by omega
            refine v_putI (j := 32) gz_180_54 rfl is_151 rd_10 rfl (by omega) (by omega) rfl (fun h7 fh7 => ?_)
            have gh7 : my_fr [(10, 32), (10, 33), (76, -1)] h h7 := my_fr.up gh3 is_151 fh7 rfl
            have Mw_h7 : Mw h7 := Mw_ag (my_ag.up fh7 is_151 rfl) Mw_h3
            refine w_aload_n gz_180_57 rfl ?_
            refine w_aload_n gz_180_58 rfl ?_
            refine w_getX (v := 165) gz_180_59 is_151 rd_10 rfl (by decide) rfl ?_
            refine w_iload_n gz_180_62 rfl ?_
            have a165 : h7 165 p7_0 = h 165 p7_0 := my_fr.at gh7 is_165 rfl
            refine w_bald gz_180_63 is_165 rd_64 (by omega) (by omega) (fun v9 ev9 pv9 qv9 => ?_)
            refine w_ifeq (t := 76) gz_180_64 rfl (fun u10 => ?_) (fun u10 => ?_)
            ·
              refine w_aload_n gz_180_76 rfl ?_
              refine v_getI (j := 33) gz_180_77 rfl is_151 rd_10 rfl (fun v11 ev11 pv11 qv11 => ?_)
              have hi12 : 0 ≤ v11 := by have q := Fc_base n_Mw hfp (by omega) fc_7_0 (by omega) (by omega); omega
              have hi13 : v11 ≤ 2 := by have q := Fc_base n_Mw hfp (by omega) fc_7_0 (by omega) (by omega); omega
              refine v_putI (j := 33) gz_180_80 rfl is_151 rd_10 rfl (by omega) (by omega) rfl (fun h14 fh14 => ?_)
              have gh14 : my_fr [(10, 32), (10, 33), (76, -1)] h h14 := my_fr.up gh7 is_151 fh14 rfl
              have Mw_h14 : Mw h14 := Mw_ag (my_ag.up fh14 is_151 rfl) Mw_h7
              refine w_aload_n gz_180_83 rfl ?_
              refine w_getX (v := 165) gz_180_84 is_151 rd_10 rfl (by decide) rfl ?_
              refine w_iload_n gz_180_87 rfl ?_
              have b165 : h14 165 p7_0 = h 165 p7_0 := my_fr.at gh14 is_165 rfl
              refine w_bald gz_180_88 is_165 rd_64 (by omega) (by omega) (fun v16 ev16 pv16 qv16 => ?_)
              have zv16 := ev16.trans ((my_up_role fh14 is_165 is_151 rfl).trans ev9.symm)
              refine w_ifeq (t := 96) gz_180_89 rfl (fun u17 => ?_) (fun u17 => by exfalso; omega)
              refine w_aload_n gz_180_96 rfl ?_
              refine w_getX (v := 166) gz_180_97 is_151 rd_10 rfl (by decide) rfl ?_
              refine w_iload_n gz_180_100 rfl ?_
              have b166 : h14 166 p7_0 = h 166 p7_0 := my_fr.at gh14 is_166 rfl
              refine w_iald gz_180_101 is_166 rd_65 (by omega) (by omega) (fun v19 ev19 pv19 qv19 => ?_)
              refine w_istore_n (ls' := [(2, 151), (0, x1), (0, v19), (0, p16_0)]) gz_180_102 gm_180 rfl rfl rfl ?_
              refine w_goto (t := 7) gz_180_103 rfl ?_
              have ce20 : h14 151 32 = (v4 + 1) := ((my_up_fld fh14 (by decide)).trans (my_up_self fh7))
              have ce21 : h14 151 33 = v11 := (my_up_self fh14)
              have cc : ∀ j : Int, h14 177 j = h3 177 j := fun j => ((my_up_role fh14 is_177 is_151 rfl).trans ((my_up_role fh7 is_177 is_151 rfl).trans (rfl : h3 177 j = h3 177 j)))
              have fcn : Fc h h14 (h14 151 32) v19 x1 := by
                rw [show h14 151 32 = h7_0 151 32 + 1 by omega]
                exact Fc_s n_Mw hfp (by omega) fc_7_0 (by omega) (by omega) (by rw [cc]; exact e0) (fun j a b => by rw [cc]; exact ej j a b) (by first | (rw [if_pos (by omega)]) | (rw [if_neg (by omega)]; omega)) (by intro q; omega)
              refine w_weak (ls' := [(2, 151), (0, x1), (0, v19), (9, 0)]) (wk_e (wk_e (wk_e (wk_9 wk_n)))) ?_
              exact ih_7_0 (v19) ((v4 + 1)) h14 (gh14) (by omega) (by omega) (by omega) (by omega) (((my_up_fld fh14 (by decide)).trans (my_up_self fh7)).trans (by omega)) (((my_up_fld fh14 (by decide)).trans ((my_up_fld fh7 (by decide)).trans ((my_up_role fh3 is_151 is_177 rfl).trans c151_8_16_0))).trans (by omega)) Mw_h14 (fcn) (by intro q; have q2 := fcn.2.1; omega) (by intro q; have q2 := fcn.2.1; omega) (by omega)
            ·
              refine w_aload_n gz_180_67 rfl ?_
              refine w_getX (v := 166) gz_180_68 is_151 rd_10 rfl (by decide) rfl ?_
              refine w_iload_n gz_180_71 rfl ?_
              have a166 : h7 166 p7_0 = h 166 p7_0 := my_fr.at gh7 is_166 rfl
              refine w_iald gz_180_72 is_166 rd_65 (by omega) (by omega) (fun v23 ev23 pv23 qv23 => ?_)
              refine w_goto (t := 80) gz_180_73 rfl ?_
              have hi24 : 0 ≤ v23 := by have q := Fc_base n_Mw hfp (by omega) fc_7_0 (by omega) (by omega); omega
              have hi25 : v23 ≤ 2 := by have q := Fc_base n_Mw hfp (by omega) fc_7_0 (by omega) (by omega); omega
              refine v_putI (j := 33) gz_180_80 rfl is_151 rd_10 rfl (by omega) (by omega) rfl (fun h26 fh26 => ?_)
              have gh26 : my_fr [(10, 32), (10, 33), (76, -1)] h h26 := my_fr.up gh7 is_151 fh26 rfl
              have Mw_h26 : Mw h26 := Mw_ag (my_ag.up fh26 is_151 rfl) Mw_h7
              refine w_aload_n gz_180_83 rfl ?_
              refine w_getX (v := 165) gz_180_84 is_151 rd_10 rfl (by decide) rfl ?_
              refine w_iload_n gz_180_87 rfl ?_
              have b165 : h26 165 p7_0 = h 165 p7_0 := my_fr.at gh26 is_165 rfl
              refine w_bald gz_180_88 is_165 rd_64 (by omega) (by omega) (fun v28 ev28 pv28 qv28 => ?_)
              have zv28 := ev28.trans ((my_up_role fh26 is_165 is_151 rfl).trans ev9.symm)
              refine w_ifeq (t := 96) gz_180_89 rfl (fun u29 => by exfalso; omega) (fun u29 => ?_)
              refine w_iconst gz_180_92 (by decide) ?_
              refine w_goto (t := 102) gz_180_93 rfl ?_
              refine w_istore_n (ls' := [(2, 151), (0, x1), (0, (-1)), (0, p16_0)]) gz_180_102 gm_180 rfl rfl rfl ?_
              refine w_goto (t := 7) gz_180_103 rfl ?_
              have ce30 : h26 151 32 = (v4 + 1) := ((my_up_fld fh26 (by decide)).trans (my_up_self fh7))
              have ce31 : h26 151 33 = v23 := (my_up_self fh26)
              have cc : ∀ j : Int, h26 177 j = h3 177 j := fun j => ((my_up_role fh26 is_177 is_151 rfl).trans ((my_up_role fh7 is_177 is_151 rfl).trans (rfl : h3 177 j = h3 177 j)))
              have fcn : Fc h h26 (h26 151 32) (-1) x1 := by
                rw [show h26 151 32 = h7_0 151 32 + 1 by omega]
                exact Fc_s n_Mw hfp (by omega) fc_7_0 (by omega) (by omega) (by rw [cc]; exact e0) (fun j a b => by rw [cc]; exact ej j a b) (by first | (rw [if_pos (by omega)]) | (rw [if_neg (by omega)]; omega)) (by intro q; omega)
              refine w_weak (ls' := [(2, 151), (0, x1), (0, (-1)), (9, 0)]) (wk_e (wk_e (wk_e (wk_9 wk_n)))) ?_
              exact ih_7_0 ((-1)) ((v4 + 1)) h26 (gh26) (by omega) (by omega) (by omega) (by omega) (((my_up_fld fh26 (by decide)).trans (my_up_self fh7)).trans (by omega)) (((my_up_fld fh26 (by decide)).trans ((my_up_fld fh7 (by decide)).trans ((my_up_role fh3 is_151 is_177 rfl).trans c151_8_16_0))).trans (by omega)) Mw_h26 (fcn) (by intro q; have q2 := fcn.2.1; omega) (by intro q; have q2 := fcn.2.1; omega) (by omega)
          ·
            refine w_aload_n gz_180_20 rfl ?_
            refine w_getX (v := 177) gz_180_21 is_151 rd_10 rfl (by decide) rfl ?_
            refine w_iload_n gz_180_24 rfl ?_
            refine w_aload_n gz_180_25 rfl ?_
            refine w_getX (v := 177) gz_180_26 is_151 rd_10 rfl (by decide) rfl ?_
            refine w_iload_n gz_180_29 rfl ?_
            refine w_iconst gz_180_30 (by decide) ?_
            refine w_isub gz_180_31 ⟨by omega, by omega⟩ ?_
            refine w_iald gz_180_32 is_177 rd_76 (by omega) (by omega) (fun v34 ev34 pv34 qv34 => ?_)
            have hi35 : 0 ≤ p16_0 := by omega
            have hi36 : p16_0 ≤ 5 := by omega
            refine w_iast gz_180_33 is_177 rd_76 (by omega) (by omega) (by omega) (by omega) (fun h37 fh37 => ?_)
            have gh37 : my_fr [(10, 32), (10, 33), (76, -1)] h h37 := my_fr.up gh_16_0 is_177 fh37 rfl
            have Mw_h37 : Mw h37 := Mw_ag (my_ag.up fh37 is_177 rfl) n_Mw_16_0
            refine w_iinc (ls' := [(2, 151), (0, x1), (0, p7_0), (0, (p16_0 + (-1)))]) gz_180_34 rfl gm_180 rfl rfl rfl ⟨by omega, by omega⟩ ?_
            refine w_goto (t := 16) gz_180_37 rfl ?_
            have ce38 : h37 151 32 = p7_1 := ((my_up_role fh37 is_151 is_177 rfl).trans c151_32_16_0)
            exact ih_16_0 ((p16_0 + (-1))) h37 (gh37) (by omega) (by omega) (by omega) (by omega) (((my_up_role fh37 is_151 is_177 rfl).trans c151_32_16_0).trans (by omega)) (((my_up_role fh37 is_151 is_177 rfl).trans c151_8_16_0).trans (by omega)) Mw_h37 (by first | (intro j a b; rw [if_neg (by omega)]) | (intro j a b; by_cases q : j = p16_0; (subst q; rw [if_pos (by omega), my_up_self fh37]; have q2 := sh_16_0 (j - 1) (by omega) (by omega); rw [if_neg (by omega)] at q2; omega); (rw [my_up_ne fh37 (by omega), sh_16_0 j a b]; by_cases q2 : p16_0 < j; (rw [if_pos q2, if_pos (by omega)]); (rw [if_neg q2, if_neg (by omega)])))) (by first | assumption | omega | (subst_vars; omega)) (by first | assumption | omega | (subst_vars; omega)) (by omega)
      refine w_iload_n gz_180_7 rfl ?_
      refine w_iflt (t := 106) gz_180_8 rfl (fun u39 => ?_) (fun u39 => ?_)
      ·
        have c40 := c151_8_7_0
        exact w_vret gz_180_106 gm_180 (k0 h7_0 (gh_7_0) (by omega) (by first | omega | (have q := fc_7_0; rw [show p7_0 = -1 by have := cl_7_0; omega] at q; exact q)) (by first | omega | (have q := fc_7_0; rw [show p7_0 = -1 by have := cl_7_0; omega] at q; exact q)) (by first | omega | (have q := fc_7_0; rw [show p7_0 = -1 by have := cl_7_0; omega] at q; exact q)))
      ·
        refine w_aload_n gz_180_11 rfl ?_
        refine v_getI (j := 32) gz_180_12 rfl is_151 rd_10 rfl (fun v41 ev41 pv41 qv41 => ?_)
        have zv41 := ev41.trans c151_32_7_0
        refine w_istore_n (ls' := [(2, 151), (0, x1), (0, p7_0), (0, v41)]) gz_180_15 gm_180 rfl rfl rfl ?_
        have ce42 : h7_0 151 32 = v41 := ev41.symm
        exact J16_0 7 (v41) h7_0 (gh_7_0) (by omega) (by omega) (by omega) (by omega) (ev41.symm.trans (by omega)) (c151_8_7_0.trans (by omega)) n_Mw_7_0 (by first | (intro j a b; rw [if_neg (by omega)]) | (intro j a b; by_cases q : j = p16_0; (subst q; rw [if_pos (by omega), my_up_self ]; have q2 := sh_16_0 (j - 1) (by omega) (by omega); rw [if_neg (by omega)] at q2; omega); (rw [my_up_ne  (by omega), sh_16_0 j a b]; by_cases q2 : p16_0 < j; (rw [if_pos q2, if_pos (by omega)]); (rw [if_neg q2, if_neg (by omega)])))) (by first | assumption | omega | (subst_vars; omega)) (by first | assumption | omega | (subst_vars; omega)) (by omega)
  refine w_iload_n gz_180_0 rfl ?_
  refine w_istore_n (ls' := [(2, 151), (0, x1), (0, x1), (9, 0)]) gz_180_1 gm_180 rfl rfl rfl ?_
  refine w_aload_n gz_180_2 rfl ?_
  refine w_iconst gz_180_3 (by decide) ?_
  refine v_putI (j := 32) gz_180_4 rfl is_151 rd_10 rfl (by omega) (by omega) rfl (fun h43 fh43 => ?_)
  have gh43 : my_fr [(10, 32), (10, 33), (76, -1)] h h43 := my_fr.up my_fr.rf is_151 fh43 rfl
  have Mw_h43 : Mw h43 := Mw_ag (my_ag.up fh43 is_151 rfl) n_Mw
  have ce44 : h43 151 32 = 0 := (my_up_self fh43)
  have ce45 : h43 151 33 = h 151 33 := ((my_up_fld fh43 (by decide)).trans (rfl : h 151 33 = h 151 33))
  have fcn : Fc h h43 (h43 151 32) x1 x1 := by
    rw [show h43 151 32 = 0 by omega]
    exact Fc_0
  exact J7_0 (7) (x1) (0) h43 (gh43) (by omega) (by omega) (by omega) (by omega) ((my_up_self fh43).trans (by omega)) (((my_up_fld fh43 (by decide)).trans cf).trans (by omega)) Mw_h43 (fcn) (by intro q; have q2 := fcn.2.1; omega) (by intro q; have q2 := fcn.2.1; omega) (by omega)
theorem c_Model_findChain {l : Launch} {rho : Nat → Int32} {d : Nat} {h : my_H} {Q : my_H → my_V → Prop} {x1 : Int} (a1 : 0 ≤ x1) (b1 : x1 ≤ 6) (n_Mw : Mw h) (hfp : Fp h x1) (k0 : ∀ (h' : my_H), my_fr [(10, 32), (10, 33), (76, -1)] h h' → Fc h h' (h' 151 32) (-1) x1 → 1 ≤ h' 151 32 → h' 151 32 ≤ 6 → Q h' (9, 0)) : wp l rho d 180 0 [(2, 151), (0, x1), (9, 0), (9, 0)] [] h Q := by
  have J7_0 : ∀ (n : Nat) (p7_0 p7_1 : Int) (h7_0 : my_H), my_fr [(10, 32), (10, 33), (76, -1)] h h7_0 → (-1) ≤ p7_0 → p7_0 ≤ 6 → 0 ≤ p7_1 → p7_1 ≤ 6 → h7_0 151 32 = p7_1 → Mw h7_0 → Fc h h7_0 (h7_0 151 32) p7_0 x1 → (0 ≤ p7_0 → h7_0 151 32 ≤ 5) → (p7_0 < 0 → p7_0 = -1 ∧ 1 ≤ h7_0 151 32) → 7 - h7_0 151 32 ≤ (n : Int) → wp l rho d 180 7 [(2, 151), (0, x1), (0, p7_0), (9, 0)] [] h7_0 Q := by
    intro n
    induction n with
    | zero => intro p7_0 p7_1 h7_0 gh_7_0 q0_7_0 q1_7_0 q2_7_0 q3_7_0 c151_32_7_0 n_Mw_7_0 fc_7_0 cb_7_0 cl_7_0 hm_7_0; exfalso; omega
    | succ n ih_7_0 =>
      intro p7_0 p7_1 h7_0 gh_7_0 q0_7_0 q1_7_0 q2_7_0 q3_7_0 c151_32_7_0 n_Mw_7_0 fc_7_0 cb_7_0 cl_7_0 hm_7_0
      have J16_0 : ∀ (n : Nat) (p16_0 : Int) (h16_0 : my_H), my_fr [(10, 32), (10, 33), (76, -1)] h h16_0 → 0 ≤ p7_0 → 0 ≤ p16_0 → p16_0 ≤ 6 → p16_0 ≤ p7_1 → h16_0 151 32 = p7_1 → Mw h16_0 → (∀ j : Int, 0 ≤ j → j ≤ h7_0 151 32 → h16_0 177 j = (if p16_0 < j then h7_0 177 (j - 1) else h7_0 177 j)) → h16_0 151 32 = h7_0 151 32 → p16_0 ≤ h7_0 151 32 → p16_0 - (-1) ≤ (n : Int) → wp l rho d 180 16 [(2, 151), (0, x1), (0, p7_0), (0, p16_0)] [] h16_0 Q := by
        intro n
        induction n with
        | zero => intro p16_0 h16_0 gh_16_0 q0_16_0 q1_16_0 q2_16_0 q3_16_0 c151_32_16_0 n_Mw_16_0 sh_16_0 ca_16_0 l3c_16_0 hm_16_0; exfalso; omega
        | succ n ih_16_0 =>
          intro p16_0 h16_0 gh_16_0 q0_16_0 q1_16_0 q2_16_0 q3_16_0 c151_32_16_0 n_Mw_16_0 sh_16_0 ca_16_0 l3c_16_0 hm_16_0
          refine w_iload_n gz_180_16 rfl ?_
          refine w_ifle (t := 40) gz_180_17 rfl (fun u1 => ?_) (fun u1 => ?_)
          ·
            refine w_aload_n gz_180_40 rfl ?_
            refine w_getX (v := 177) gz_180_41 is_151 rd_10 rfl (by decide) rfl ?_
            refine w_iconst gz_180_44 (by decide) ?_
            refine w_iload_n gz_180_45 rfl ?_
            refine w_iast gz_180_46 is_177 rd_76 (by omega) (by omega) (by omega) (by omega) (fun h3 fh3 => ?_)
            have gh3 : my_fr [(10, 32), (10, 33), (76, -1)] h h3 := my_fr.up gh_16_0 is_177 fh3 rfl
            have Mw_h3 : Mw h3 := Mw_ag (my_ag.up fh3 is_177 rfl) n_Mw_16_0
            have e0 : h3 177 0 = p7_0 := my_up_self fh3
            have ej : ∀ j : Int, 0 < j → j ≤ h7_0 151 32 → h3 177 j = h7_0 177 (j - 1) := fun j a b => by rw [my_up_ne fh3 (by omega), sh_16_0 j (by omega) b, if_pos (by omega)]
            refine w_aload_n gz_180_47 rfl ?_
            refine w_dup gz_180_48 rfl ?_
            refine v_getI (j := 32) gz_180_49 rfl is_151 rd_10 rfl (fun v4 ev4 pv4 qv4 => ?_)
            have zv4 := ev4.trans ((my_up_role fh3 is_151 is_177 rfl).trans c151_32_16_0)
            refine w_iconst gz_180_52 (by decide) ?_
            refine w_iadd gz_180_53 ⟨by omega, by omega⟩ ?_
            have hi5 : 0 ≤ (v4 + 1) := by omega
            have hi6 : (v4 + 1) ≤ 6 := by omega
            refine v_putI (j := 32) gz_180_54 rfl is_151 rd_10 rfl (by omega) (by omega) rfl (fun h7 fh7 => ?_)
            have gh7 : my_fr [(10, 32), (10, 33), (76, -1)] h h7 := my_fr.up gh3 is_151 fh7 rfl
            have Mw_h7 : Mw h7 := Mw_ag (my_ag.up fh7 is_151 rfl) Mw_h3
            refine w_aload_n gz_180_57 rfl ?_
            refine w_aload_n gz_180_58 rfl ?_
            refine w_getX (v := 165) gz_180_59 is_151 rd_10 rfl (by decide) rfl ?_
            refine w_iload_n gz_180_62 rfl ?_
            have a165 : h7 165 p7_0 = h 165 p7_0 := my_fr.at gh7 is_165 rfl
            refine w_bald gz_180_63 is_165 rd_64 (by omega) (by omega) (fun v9 ev9 pv9 qv9 => ?_)
            refine w_ifeq (t := 76) gz_180_64 rfl (fun u10 => ?_) (fun u10 => ?_)
            ·
              refine w_aload_n gz_180_76 rfl ?_
              refine v_getI (j := 33) gz_180_77 rfl is_151 rd_10 rfl (fun v11 ev11 pv11 qv11 => ?_)
              have hi12 : 0 ≤ v11 := by have q := Fc_base n_Mw hfp (by omega) fc_7_0 (by omega) (by omega); omega
              have hi13 : v11 ≤ 2 := by have q := Fc_base n_Mw hfp (by omega) fc_7_0 (by omega) (by omega); omega
              refine v_putI (j := 33) gz_180_80 rfl is_151 rd_10 rfl (by omega) (by omega) rfl (fun h14 fh14 => ?_)
              have gh14 : my_fr [(10, 32), (10, 33), (76, -1)] h h14 := my_fr.up gh7 is_151 fh14 rfl
              have Mw_h14 : Mw h14 := Mw_ag (my_ag.up fh14 is_151 rfl) Mw_h7
              refine w_aload_n gz_180_83 rfl ?_
              refine w_getX (v := 165) gz_180_84 is_151 rd_10 rfl (by decide) rfl ?_
              refine w_iload_n gz_180_87 rfl ?_
              have b165 : h14 165 p7_0 = h 165 p7_0 := my_fr.at gh14 is_165 rfl
              refine w_bald gz_180_88 is_165 rd_64 (by omega) (by omega) (fun v16 ev16 pv16 qv16 => ?_)
              have zv16 := ev16.trans ((my_up_role fh14 is_165 is_151 rfl).trans ev9.symm)
              refine w_ifeq (t := 96) gz_180_89 rfl (fun u17 => ?_) (fun u17 => by exfalso; omega)
              refine w_aload_n gz_180_96 rfl ?_
              refine w_getX (v := 166) gz_180_97 is_151 rd_10 rfl (by decide) rfl ?_
              refine w_iload_n gz_180_100 rfl ?_
              have b166 : h14 166 p7_0 = h 166 p7_0 := my_fr.at gh14 is_166 rfl
              refine w_iald gz_180_101 is_166 rd_65 (by omega) (by omega) (fun v19 ev19 pv19 qv19 => ?_)
              refine w_istore_n (ls' := [(2, 151), (0, x1), (0, v19), (0, p16_0)]) gz_180_102 gm_180 rfl rfl rfl ?_
              refine w_goto (t := 7) gz_180_103 rfl ?_
              have ce20 : h14 151 32 = (v4 + 1) := ((my_up_fld fh14 (by decide)).trans (my_up_self fh7))
              have ce21 : h14 151 33 = v11 := (my_up_self fh14)
              have cc : ∀ j : Int, h14 177 j = h3 177 j := fun j => ((my_up_role fh14 is_177 is_151 rfl).trans ((my_up_role fh7 is_177 is_151 rfl).trans (rfl : h3 177 j = h3 177 j)))
              have fcn : Fc h h14 (h14 151 32) v19 x1 := by
                rw [show h14 151 32 = h7_0 151 32 + 1 by omega]
                exact Fc_s n_Mw hfp (by omega) fc_7_0 (by omega) (by omega) (by rw [cc]; exact e0) (fun j a b => by rw [cc]; exact ej j a b) (by first | (rw [if_pos (by omega)]) | (rw [if_neg (by omega)]; omega)) (by intro q; omega)
              refine w_weak (ls' := [(2, 151), (0, x1), (0, v19), (9, 0)]) (wk_e (wk_e (wk_e (wk_9 wk_n)))) ?_
              exact ih_7_0 (v19) ((v4 + 1)) h14 (gh14) (by omega) (by omega) (by omega) (by omega) (((my_up_fld fh14 (by decide)).trans (my_up_self fh7)).trans (by omega)) Mw_h14 (fcn) (by intro q; have q2 := fcn.2.1; omega) (by intro q; have q2 := fcn.2.1; omega) (by omega)
            ·
              refine w_aload_n gz_180_67 rfl ?_
              refine w_getX (v := 166) gz_180_68 is_151 rd_10 rfl (by decide) rfl ?_
              refine w_iload_n gz_180_71 rfl ?_
              have a166 : h7 166 p7_0 = h 166 p7_0 := my_fr.at gh7 is_166 rfl
              refine w_iald gz_180_72 is_166 rd_65 (by omega) (by omega) (fun v23 ev23 pv23 qv23 => ?_)
              refine w_goto (t := 80) gz_180_73 rfl ?_
              have hi24 : 0 ≤ v23 := by have q := Fc_base n_Mw hfp (by omega) fc_7_0 (by omega) (by omega); omega
              have hi25 : v23 ≤ 2 := by have q := Fc_base n_Mw hfp (by omega) fc_7_0 (by omega) (by omega); omega
              refine v_putI (j := 33) gz_180_80 rfl is_151 rd_10 rfl (by omega) (by omega) rfl (fun h26 fh26 => ?_)
              have gh26 : my_fr [(10, 32), (10, 33), (76, -1)] h h26 := my_fr.up gh7 is_151 fh26 rfl
              have Mw_h26 : Mw h26 := Mw_ag (my_ag.up fh26 is_151 rfl) Mw_h7
              refine w_aload_n gz_180_83 rfl ?_
              refine w_getX (v := 165) gz_180_84 is_151 rd_10 rfl (by decide) rfl ?_
              refine w_iload_n gz_180_87 rfl ?_
              have b165 : h26 165 p7_0 = h 165 p7_0 := my_fr.at gh26 is_165 rfl
              refine w_bald gz_180_88 is_165 rd_64 (by omega) (by omega) (fun v28 ev28 pv28 qv28 => ?_)
              have zv28 := ev28.trans ((my_up_role fh26 is_165 is_151 rfl).trans ev9.symm)
              refine w_ifeq (t := 96) gz_180_89 rfl (fun u29 => by exfalso; omega) (fun u29 => ?_)
              refine w_iconst gz_180_92 (by decide) ?_
              refine w_goto (t := 102) gz_180_93 rfl ?_
              refine w_istore_n (ls' := [(2, 151), (0, x1), (0, (-1)), (0, p16_0)]) gz_180_102 gm_180 rfl rfl rfl ?_
              refine w_goto (t := 7) gz_180_103 rfl ?_
              have ce30 : h26 151 32 = (v4 + 1) := ((my_up_fld fh26 (by decide)).trans (my_up_self fh7))
              have ce31 : h26 151 33 = v23 := (my_up_self fh26)
              have cc : ∀ j : Int, h26 177 j = h3 177 j := fun j => ((my_up_role fh26 is_177 is_151 rfl).trans ((my_up_role fh7 is_177 is_151 rfl).trans (rfl : h3 177 j = h3 177 j)))
              have fcn : Fc h h26 (h26 151 32) (-1) x1 := by
                rw [show h26 151 32 = h7_0 151 32 + 1 by omega]
                exact Fc_s n_Mw hfp (by omega) fc_7_0 (by omega) (by omega) (by rw [cc]; exact e0) (fun j a b => by rw [cc]; exact ej j a b) (by first | (rw [if_pos (by omega)]) | (rw [if_neg (by omega)]; omega)) (by intro q; omega)
              refine w_weak (ls' := [(2, 151), (0, x1), (0, (-1)), (9, 0)]) (wk_e (wk_e (wk_e (wk_9 wk_n)))) ?_
              exact ih_7_0 ((-1)) ((v4 + 1)) h26 (gh26) (by omega) (by omega) (by omega) (by omega) (((my_up_fld fh26 (by decide)).trans (my_up_self fh7)).trans (by omega)) Mw_h26 (fcn) (by intro q; have q2 := fcn.2.1; omega) (by intro q; have q2 := fcn.2.1; omega) (by omega)
          ·
            refine w_aload_n gz_180_20 rfl ?_
            refine w_getX (v := 177) gz_180_21 is_151 rd_10 rfl (by decide) rfl ?_
            refine w_iload_n gz_180_24 rfl ?_
            refine w_aload_n gz_180_25 rfl ?_
            refine w_getX (v := 177) gz_180_26 is_151 rd_10 rfl (by decide) rfl ?_
            refine w_iload_n gz_180_29 rfl ?_
            refine w_iconst gz_180_30 (by decide) ?_
            refine w_isub gz_180_31 ⟨by omega, by omega⟩ ?_
            refine w_iald gz_180_32 is_177 rd_76 (by omega) (by omega) (fun v34 ev34 pv34 qv34 => ?_)
            have hi35 : 0 ≤ p16_0 := by omega
            have hi36 : p16_0 ≤ 5 := by omega
            refine w_iast gz_180_33 is_177 rd_76 (by omega) (by omega) (by omega) (by omega) (fun h37 fh37 => ?_)
            have gh37 : my_fr [(10, 32), (10, 33), (76, -1)] h h37 := my_fr.up gh_16_0 is_177 fh37 rfl
            have Mw_h37 : Mw h37 := Mw_ag (my_ag.up fh37 is_177 rfl) n_Mw_16_0
            refine w_iinc (ls' := [(2, 151), (0, x1), (0, p7_0), (0, (p16_0 + (-1)))]) gz_180_34 rfl gm_180 rfl rfl rfl ⟨by omega, by omega⟩ ?_
            refine w_goto (t := 16) gz_180_37 rfl ?_
            have ce38 : h37 151 32 = p7_1 := ((my_up_role fh37 is_151 is_177 rfl).trans c151_32_16_0)
            exact ih_16_0 ((p16_0 + (-1))) h37 (gh37) (by omega) (by omega) (by omega) (by omega) (((my_up_role fh37 is_151 is_177 rfl).trans c151_32_16_0).trans (by omega)) Mw_h37 (by first | (intro j a b; rw [if_neg (by omega)]) | (intro j a b; by_cases q : j = p16_0; (subst q; rw [if_pos (by omega), my_up_self fh37]; have q2 := sh_16_0 (j - 1) (by omega) (by omega); rw [if_neg (by omega)] at q2; omega); (rw [my_up_ne fh37 (by omega), sh_16_0 j a b]; by_cases q2 : p16_0 < j; (rw [if_pos q2, if_pos (by omega)]); (rw [if_neg q2, if_neg (by omega)])))) (by first | assumption | omega | (subst_vars; omega)) (by first | assumption | omega | (subst_vars; omega)) (by omega)
      refine w_iload_n gz_180_7 rfl ?_
      refine w_iflt (t := 106) gz_180_8 rfl (fun u39 => ?_) (fun u39 => ?_)
      ·
        exact w_vret gz_180_106 gm_180 (k0 h7_0 (gh_7_0) (by first | omega | (have q := fc_7_0; rw [show p7_0 = -1 by have := cl_7_0; omega] at q; exact q)) (by first | omega | (have q := fc_7_0; rw [show p7_0 = -1 by have := cl_7_0; omega] at q; exact q)) (by first | omega | (have q := fc_7_0; rw [show p7_0 = -1 by have := cl_7_0; omega] at q; exact q)))
      ·
        refine w_aload_n gz_180_11 rfl ?_
        refine v_getI (j := 32) gz_180_12 rfl is_151 rd_10 rfl (fun v40 ev40 pv40 qv40 => ?_)
        have zv40 := ev40.trans c151_32_7_0
        refine w_istore_n (ls' := [(2, 151), (0, x1), (0, p7_0), (0, v40)]) gz_180_15 gm_180 rfl rfl rfl ?_
        have ce41 : h7_0 151 32 = v40 := ev40.symm
        exact J16_0 7 (v40) h7_0 (gh_7_0) (by omega) (by omega) (by omega) (by omega) (ev40.symm.trans (by omega)) n_Mw_7_0 (by first | (intro j a b; rw [if_neg (by omega)]) | (intro j a b; by_cases q : j = p16_0; (subst q; rw [if_pos (by omega), my_up_self ]; have q2 := sh_16_0 (j - 1) (by omega) (by omega); rw [if_neg (by omega)] at q2; omega); (rw [my_up_ne  (by omega), sh_16_0 j a b]; by_cases q2 : p16_0 < j; (rw [if_pos q2, if_pos (by omega)]); (rw [if_neg q2, if_neg (by omega)])))) (by first | assumption | omega | (subst_vars; omega)) (by first | assumption | omega | (subst_vars; omega)) (by omega)
  refine w_iload_n gz_180_0 rfl ?_
  refine w_istore_n (ls' := [(2, 151), (0, x1), (0, x1), (9, 0)]) gz_180_1 gm_180 rfl rfl rfl ?_
  refine w_aload_n gz_180_2 rfl ?_
  refine w_iconst gz_180_3 (by decide) ?_
  refine v_putI (j := 32) gz_180_4 rfl is_151 rd_10 rfl (by omega) (by omega) rfl (fun h42 fh42 => ?_)
  have gh42 : my_fr [(10, 32), (10, 33), (76, -1)] h h42 := my_fr.up my_fr.rf is_151 fh42 rfl
  have Mw_h42 : Mw h42 := Mw_ag (my_ag.up fh42 is_151 rfl) n_Mw
  have ce43 : h42 151 32 = 0 := (my_up_self fh42)
  have ce44 : h42 151 33 = h 151 33 := ((my_up_fld fh42 (by decide)).trans (rfl : h 151 33 = h 151 33))
  have fcn : Fc h h42 (h42 151 32) x1 x1 := by
    rw [show h42 151 32 = 0 by omega]
    exact Fc_0
  exact J7_0 (7) (x1) (0) h42 (gh42) (by omega) (by omega) (by omega) (by omega) ((my_up_self fh42).trans (by omega)) Mw_h42 (fcn) (by intro q; have q2 := fcn.2.1; omega) (by intro q; have q2 := fcn.2.1; omega) (by omega)
theorem c_Reader_nextToken_f0 {l : Launch} {rho : Nat → Int32} {d : Nat} {h : my_H} {Q : my_H → my_V → Prop} (cf : h 82 9 = 0) (k0 : ∀ (h' : my_H), my_fr [(5, 5), (5, 6), (5, 7), (5, 8)] h h' → 0 ≤ h' 82 6 → h' 82 6 ≤ 4 → h' 82 9 = 0 → Q h' (9, 0)) : wp l rho (d + 1) 37 0 [(2, 82), (9, 0), (9, 0)] [] h Q := by
  refine v_know (x := 82) (j := 4) (b := 4) rfl is_82 rd_5 rfl (fun k82_4 ek82_4 pk82_4 qk82_4 => ?_)
  refine v_know (x := 82) (j := 5) (b := 5) rfl is_82 rd_5 rfl (fun k82_5 ek82_5 pk82_5 qk82_5 => ?_)
  have J181_0 : ∀ (n : Nat) (p181_0 p181_1 p181_2 p181_3 p181_4 p181_5 : Int) (h181_0 : my_H), my_fr [(5, 5), (5, 6), (5, 7), (5, 8)] h h181_0 → 1 ≤ p181_0 → p181_0 ≤ 8 → 1 ≤ p181_1 → p181_1 ≤ 1000 → 1 ≤ k82_4 → 0 ≤ p181_4 → p181_4 ≤ 999 → 1 ≤ p181_3 → p181_3 ≤ 4 → 0 ≤ p181_5 → p181_5 ≤ 999 → 0 ≤ p181_2 → p181_2 ≤ 1000 → k82_5 ≤ 999 → p181_4 ≤ (p181_1 - 1) → p181_4 ≤ p181_2 → p181_2 ≤ p181_1 → k82_5 ≤ (p181_1 - 1) → k82_5 ≤ p181_4 → k82_5 ≤ p181_2 → h181_0 82 4 = k82_4 → h181_0 82 5 = p181_2 → h181_0 82 6 = p181_3 → h181_0 82 7 = p181_4 → h181_0 82 8 = p181_5 → h181_0 82 9 = 0 → (h181_0 82 6 = 2 → p181_0 = 3) → (h181_0 82 6 = 2 → ∀ k : Int, h181_0 82 7 ≤ k → k < p181_1 → 48 ≤ h181_0 92 k ∧ h181_0 92 k ≤ 57) → h181_0 82 7 ≤ h181_0 82 5 → ((h181_0 82 5 = h181_0 82 7 → h181_0 82 8 = 0) ∧ (h181_0 82 5 = h181_0 82 7 + 1 → h181_0 82 8 ≤ 9) ∧ (h181_0 82 5 = h181_0 82 7 + 2 → h181_0 82 8 ≤ 99) ∧ 0 ≤ h181_0 82 8) → 1001 - h181_0 82 5 ≤ (n : Int) → wp l rho (d + 1) 37 181 [(2, 82), (0, p181_0), (0, p181_1)] [] h181_0 Q := by
    intro n
    induction n with
    | zero => intro p181_0 p181_1 p181_2 p181_3 p181_4 p181_5 h181_0 gh_181_0 q0_181_0 q1_181_0 q2_181_0 q3_181_0 q4_181_0 q5_181_0 q6_181_0 q7_181_0 q8_181_0 q9_181_0 q10_181_0 q11_181_0 q12_181_0 q13_181_0 q14_181_0 q15_181_0 q16_181_0 q17_181_0 q18_181_0 q19_181_0 c82_4_181_0 c82_5_181_0 c82_6_181_0 c82_7_181_0 c82_8_181_0 c82_9_181_0 tk_181_0 dg_181_0 se_181_0 nb_181_0 hm_181_0; exfalso; omega
    | succ n ih_181_0 =>
      intro p181_0 p181_1 p181_2 p181_3 p181_4 p181_5 h181_0 gh_181_0 q0_181_0 q1_181_0 q2_181_0 q3_181_0 q4_181_0 q5_181_0 q6_181_0 q7_181_0 q8_181_0 q9_181_0 q10_181_0 q11_181_0 q12_181_0 q13_181_0 q14_181_0 q15_181_0 q16_181_0 q17_181_0 q18_181_0 q19_181_0 c82_4_181_0 c82_5_181_0 c82_6_181_0 c82_7_181_0 c82_8_181_0 c82_9_181_0 tk_181_0 dg_181_0 se_181_0 nb_181_0 hm_181_0
      refine w_aload_n gz_37_181 rfl ?_
      refine v_getI (j := 5) gz_37_182 rfl is_82 rd_5 rfl (fun v1 ev1 pv1 qv1 => ?_)
      have zv1 := ev1.trans c82_5_181_0
      refine w_iload_n gz_37_185 rfl ?_
      refine w_icge (t := 247) gz_37_186 rfl (fun u2 => ?_) (fun u2 => ?_)
      ·
        refine w_iload_n gz_37_247 rfl ?_
        refine w_aload_n gz_37_248 rfl ?_
        refine v_getI (j := 7) gz_37_249 rfl is_82 rd_5 rfl (fun v3 ev3 pv3 qv3 => ?_)
        have zv3 := ev3.trans c82_7_181_0
        refine w_isub gz_37_252 ⟨by omega, by omega⟩ ?_
        refine w_iload_n gz_37_253 rfl ?_
        refine w_icle (t := 262) gz_37_254 rfl (fun u4 => ?_) (fun u4 => ?_)
        ·
          have c5 := c82_6_181_0
          have c6 := c82_9_181_0
          exact w_vret gz_37_262 gm_37 (k0 h181_0 (gh_181_0) (by omega) (by omega) (by omega))
        ·
          refine w_aload_n gz_37_257 rfl ?_
          refine w_iconst gz_37_258 (by decide) ?_
          refine v_putI (j := 6) gz_37_259 rfl is_82 rd_5 rfl (by omega) (by omega) rfl (fun h7 fh7 => ?_)
          have gh7 : my_fr [(5, 5), (5, 6), (5, 7), (5, 8)] h h7 := my_fr.up gh_181_0 is_82 fh7 rfl
          have c8 := (my_up_self fh7)
          have c9 := ((my_up_fld fh7 (by decide)).trans c82_9_181_0)
          exact w_vret gz_37_262 gm_37 (k0 h7 (gh7) (by omega) (by omega) (by omega))
      ·
        refine w_aload_n gz_37_189 rfl ?_
        refine v_getI (j := 6) gz_37_190 rfl is_82 rd_5 rfl (fun v10 ev10 pv10 qv10 => ?_)
        have zv10 := ev10.trans c82_6_181_0
        refine w_iconst gz_37_193 (by decide) ?_
        refine w_icne (t := 234) gz_37_194 rfl (fun u11 => ?_) (fun u11 => ?_)
        ·
          refine w_aload_n gz_37_234 rfl ?_
          refine w_dup gz_37_235 rfl ?_
          refine v_getI (j := 5) gz_37_236 rfl is_82 rd_5 rfl (fun v12 ev12 pv12 qv12 => ?_)
          have zv12 := ev12.trans ev1.symm
          refine w_iconst gz_37_239 (by decide) ?_
          refine w_iadd gz_37_240 ⟨by omega, by omega⟩ ?_
          refine v_putI (j := 5) gz_37_241 rfl is_82 rd_5 rfl (by omega) (by omega) rfl (fun h13 fh13 => ?_)
          have gh13 : my_fr [(5, 5), (5, 6), (5, 7), (5, 8)] h h13 := my_fr.up gh_181_0 is_82 fh13 rfl
          refine w_goto (t := 181) gz_37_244 rfl ?_
          have ce14 : h13 82 5 = (v12 + 1) := (my_up_self fh13)
          have ce15 : h13 82 6 = v10 := ((my_up_fld fh13 (by decide)).trans ev10.symm)
          have ce16 : h13 82 7 = p181_4 := ((my_up_fld fh13 (by decide)).trans c82_7_181_0)
          have ce17 : h13 82 8 = p181_5 := ((my_up_fld fh13 (by decide)).trans c82_8_181_0)
          have sg : ∀ j : Int, h13 92 j = h181_0 92 j := fun j => ((my_up_role fh13 is_92 is_82 rfl).trans (rfl : h181_0 92 j = h181_0 92 j))
          exact ih_181_0 (p181_0) (p181_1) ((v12 + 1)) (v10) (p181_4) (p181_5) h13 (gh13) (by omega) (by omega) (by omega) (by omega) (by omega) (by omega) (by omega) (by omega) (by omega) (by omega) (by omega) (by omega) (by omega) (by omega) (by omega) (by omega) (by omega) (by omega) (by omega) (by omega) (((my_up_fld fh13 (by decide)).trans c82_4_181_0).trans (by omega)) ((my_up_self fh13).trans (by omega)) (((my_up_fld fh13 (by decide)).trans ev10.symm).trans (by omega)) (((my_up_fld fh13 (by decide)).trans c82_7_181_0).trans (by omega)) (((my_up_fld fh13 (by decide)).trans c82_8_181_0).trans (by omega)) (((my_up_fld fh13 (by decide)).trans c82_9_181_0).trans (by omega)) (by omega) (by first | (intro t k a b; rw [sg]; exact dg_181_0 (by omega) k (by omega) (by omega)) | (intro t k a b; rw [sg]; exact dg_138_0 (by omega) k (by omega) (by omega)) | (intro t k a b; rw [sg, ← sg0, sgi k (by omega)]; omega) | (intro t; omega) | (intro t k a b; rw [sg]; rcases (by omega : k = p181_1 ∨ k < p181_1) with q | q <;> first | exact dg_138_0 (by omega) k (by omega) (by omega) | (subst q; omega))) (by first | assumption | omega | (subst_vars; omega)) (by first | assumption | omega | (subst_vars; omega)) (by omega)
        ·
          refine w_aload_n gz_37_197 rfl ?_
          refine v_getI (j := 5) gz_37_198 rfl is_82 rd_5 rfl (fun v18 ev18 pv18 qv18 => ?_)
          have zv18 := ev18.trans ev1.symm
          refine w_aload_n gz_37_201 rfl ?_
          refine v_getI (j := 7) gz_37_202 rfl is_82 rd_5 rfl (fun v19 ev19 pv19 qv19 => ?_)
          have zv19 := ev19.trans c82_7_181_0
          refine w_isub gz_37_205 ⟨by omega, by omega⟩ ?_
          refine w_iload_n gz_37_206 rfl ?_
          refine w_icge (t := 234) gz_37_207 rfl (fun u20 => ?_) (fun u20 => ?_)
          ·
            refine w_aload_n gz_37_234 rfl ?_
            refine w_dup gz_37_235 rfl ?_
            refine v_getI (j := 5) gz_37_236 rfl is_82 rd_5 rfl (fun v21 ev21 pv21 qv21 => ?_)
            have zv21 := ev21.trans ev18.symm
            refine w_iconst gz_37_239 (by decide) ?_
            refine w_iadd gz_37_240 ⟨by omega, by omega⟩ ?_
            refine v_putI (j := 5) gz_37_241 rfl is_82 rd_5 rfl (by omega) (by omega) rfl (fun h22 fh22 => ?_)
            have gh22 : my_fr [(5, 5), (5, 6), (5, 7), (5, 8)] h h22 := my_fr.up gh_181_0 is_82 fh22 rfl
            refine w_goto (t := 181) gz_37_244 rfl ?_
            have ce23 : h22 82 5 = (v21 + 1) := (my_up_self fh22)
            have ce24 : h22 82 6 = v10 := ((my_up_fld fh22 (by decide)).trans ev10.symm)
            have ce25 : h22 82 7 = v19 := ((my_up_fld fh22 (by decide)).trans ev19.symm)
            have ce26 : h22 82 8 = p181_5 := ((my_up_fld fh22 (by decide)).trans c82_8_181_0)
            have sg : ∀ j : Int, h22 92 j = h181_0 92 j := fun j => ((my_up_role fh22 is_92 is_82 rfl).trans (rfl : h181_0 92 j = h181_0 92 j))
            exact ih_181_0 (p181_0) (p181_1) ((v21 + 1)) (v10) (v19) (p181_5) h22 (gh22) (by omega) (by omega) (by omega) (by omega) (by omega) (by omega) (by omega) (by omega) (by omega) (by omega) (by omega) (by omega) (by omega) (by omega) (by omega) (by omega) (by omega) (by omega) (by omega) (by omega) (((my_up_fld fh22 (by decide)).trans c82_4_181_0).trans (by omega)) ((my_up_self fh22).trans (by omega)) (((my_up_fld fh22 (by decide)).trans ev10.symm).trans (by omega)) (((my_up_fld fh22 (by decide)).trans ev19.symm).trans (by omega)) (((my_up_fld fh22 (by decide)).trans c82_8_181_0).trans (by omega)) (((my_up_fld fh22 (by decide)).trans c82_9_181_0).trans (by omega)) (by omega) (by first | (intro t k a b; rw [sg]; exact dg_181_0 (by omega) k (by omega) (by omega)) | (intro t k a b; rw [sg]; exact dg_138_0 (by omega) k (by omega) (by omega)) | (intro t k a b; rw [sg, ← sg0, sgi k (by omega)]; omega) | (intro t; omega) | (intro t k a b; rw [sg]; rcases (by omega : k = p181_1 ∨ k < p181_1) with q | q <;> first | exact dg_138_0 (by omega) k (by omega) (by omega) | (subst q; omega))) (by first | assumption | omega | (subst_vars; omega)) (by first | assumption | omega | (subst_vars; omega)) (by omega)
          ·
            refine w_aload_n gz_37_210 rfl ?_
            refine w_bipush gz_37_211 (by decide) ?_
            refine w_aload_n gz_37_213 rfl ?_
            refine v_getI (j := 8) gz_37_214 rfl is_82 rd_5 rfl (fun v27 ev27 pv27 qv27 => ?_)
            have zv27 := ev27.trans c82_8_181_0
            refine w_imul gz_37_217 ⟨by omega, by omega⟩ ?_
            refine w_aload_n gz_37_218 rfl ?_
            refine w_getX (v := 92) gz_37_219 is_82 rd_5 rfl (by decide) rfl ?_
            refine w_aload_n gz_37_222 rfl ?_
            refine v_getI (j := 5) gz_37_223 rfl is_82 rd_5 rfl (fun v29 ev29 pv29 qv29 => ?_)
            have zv29 := ev29.trans ev18.symm
            have dd := dg_181_0 (by omega) v29 (by omega) (by omega)
            refine w_yald gz_37_226 is_92 rd_40 (by omega) (by omega) (fun v30 ev30 pv30 qv30 => ?_)
            refine w_iadd gz_37_227 ⟨by omega, by omega⟩ ?_
            refine w_bipush gz_37_228 (by decide) ?_
            refine w_isub gz_37_230 ⟨by omega, by omega⟩ ?_
            have hi31 : 0 ≤ (((10 * v27) + v30) - 48) := by omega
            have hi32 : (((10 * v27) + v30) - 48) ≤ 999 := by omega
            refine v_putI (j := 8) gz_37_231 rfl is_82 rd_5 rfl (by omega) (by omega) rfl (fun h33 fh33 => ?_)
            have gh33 : my_fr [(5, 5), (5, 6), (5, 7), (5, 8)] h h33 := my_fr.up gh_181_0 is_82 fh33 rfl
            refine w_aload_n gz_37_234 rfl ?_
            refine w_dup gz_37_235 rfl ?_
            refine v_getI (j := 5) gz_37_236 rfl is_82 rd_5 rfl (fun v34 ev34 pv34 qv34 => ?_)
            have zv34 := ev34.trans ((my_up_fld fh33 (by decide)).trans ev29.symm)
            refine w_iconst gz_37_239 (by decide) ?_
            refine w_iadd gz_37_240 ⟨by omega, by omega⟩ ?_
            refine v_putI (j := 5) gz_37_241 rfl is_82 rd_5 rfl (by omega) (by omega) rfl (fun h35 fh35 => ?_)
            have gh35 : my_fr [(5, 5), (5, 6), (5, 7), (5, 8)] h h35 := my_fr.up gh33 is_82 fh35 rfl
            refine w_goto (t := 181) gz_37_244 rfl ?_
            have ce36 : h35 82 5 = (v34 + 1) := (my_up_self fh35)
            have ce37 : h35 82 6 = v10 := ((my_up_fld fh35 (by decide)).trans ((my_up_fld fh33 (by decide)).trans ev10.symm))
            have ce38 : h35 82 7 = v19 := ((my_up_fld fh35 (by decide)).trans ((my_up_fld fh33 (by decide)).trans ev19.symm))
            have ce39 : h35 82 8 = (((10 * v27) + v30) - 48) := ((my_up_fld fh35 (by decide)).trans (my_up_self fh33))
            have sg : ∀ j : Int, h35 92 j = h181_0 92 j := fun j => ((my_up_role fh35 is_92 is_82 rfl).trans ((my_up_role fh33 is_92 is_82 rfl).trans (rfl : h181_0 92 j = h181_0 92 j)))
            exact ih_181_0 (p181_0) (p181_1) ((v34 + 1)) (v10) (v19) ((((10 * v27) + v30) - 48)) h35 (gh35) (by omega) (by omega) (by omega) (by omega) (by omega) (by omega) (by omega) (by omega) (by omega) (by omega) (by omega) (by omega) (by omega) (by omega) (by omega) (by omega) (by omega) (by omega) (by omega) (by omega) (((my_up_fld fh35 (by decide)).trans ((my_up_fld fh33 (by decide)).trans c82_4_181_0)).trans (by omega)) ((my_up_self fh35).trans (by omega)) (((my_up_fld fh35 (by decide)).trans ((my_up_fld fh33 (by decide)).trans ev10.symm)).trans (by omega)) (((my_up_fld fh35 (by decide)).trans ((my_up_fld fh33 (by decide)).trans ev19.symm)).trans (by omega)) (((my_up_fld fh35 (by decide)).trans (my_up_self fh33)).trans (by omega)) (((my_up_fld fh35 (by decide)).trans ((my_up_fld fh33 (by decide)).trans c82_9_181_0)).trans (by omega)) (by omega) (by first | (intro t k a b; rw [sg]; exact dg_181_0 (by omega) k (by omega) (by omega)) | (intro t k a b; rw [sg]; exact dg_138_0 (by omega) k (by omega) (by omega)) | (intro t k a b; rw [sg, ← sg0, sgi k (by omega)]; omega) | (intro t; omega) | (intro t k a b; rw [sg]; rcases (by omega : k = p181_1 ∨ k < p181_1) with q | q <;> first | exact dg_138_0 (by omega) k (by omega) (by omega) | (subst q; omega))) (by first | assumption | omega | (subst_vars; omega)) (by first | assumption | omega | (subst_vars; omega)) (by omega)
  have J138_0 : ∀ (n : Nat) (p138_0 p138_1 p138_2 p138_3 : Int) (h138_0 : my_H), my_fr [(5, 5), (5, 6), (5, 7), (5, 8)] h h138_0 → 1 ≤ p138_0 → p138_0 ≤ 8 → 1 ≤ p138_1 → p138_1 ≤ 1000 → 1 ≤ k82_4 → 0 ≤ p138_2 → p138_2 ≤ 999 → 1 ≤ p138_3 → p138_3 ≤ 4 → k82_5 ≤ 999 → p138_1 ≤ k82_4 → p138_2 ≤ (p138_1 - 1) → p138_2 ≤ (k82_4 - 1) → k82_5 ≤ (p138_1 - 1) → k82_5 ≤ p138_2 → k82_5 ≤ (k82_4 - 1) → h138_0 82 4 = k82_4 → h138_0 82 5 = p138_2 → h138_0 82 6 = p138_3 → h138_0 82 7 = p138_2 → h138_0 82 8 = 0 → h138_0 82 9 = 0 → (h138_0 82 6 = 2 → p138_0 = 3) → (h138_0 82 6 = 2 → ∀ k : Int, h138_0 82 7 ≤ k → k < p138_1 → 48 ≤ h138_0 92 k ∧ h138_0 92 k ≤ 57) → h138_0 82 7 + 1 ≤ p138_1 → h138_0 82 8 = 0 → p138_1 ≤ 1000 → 1001 - p138_1 ≤ (n : Int) → wp l rho (d + 1) 37 138 [(2, 82), (0, p138_0), (0, p138_1)] [] h138_0 Q := by
    intro n
    induction n with
    | zero => intro p138_0 p138_1 p138_2 p138_3 h138_0 gh_138_0 q0_138_0 q1_138_0 q2_138_0 q3_138_0 q4_138_0 q5_138_0 q6_138_0 q7_138_0 q8_138_0 q9_138_0 q10_138_0 q11_138_0 q12_138_0 q13_138_0 q14_138_0 q15_138_0 c82_4_138_0 c82_5_138_0 c82_6_138_0 c82_7_138_0 c82_8_138_0 c82_9_138_0 tk_138_0 dg_138_0 sn_138_0 n0_138_0 lm_138_0 hm_138_0; exfalso; omega
    | succ n ih_138_0 =>
      intro p138_0 p138_1 p138_2 p138_3 h138_0 gh_138_0 q0_138_0 q1_138_0 q2_138_0 q3_138_0 q4_138_0 q5_138_0 q6_138_0 q7_138_0 q8_138_0 q9_138_0 q10_138_0 q11_138_0 q12_138_0 q13_138_0 q14_138_0 q15_138_0 c82_4_138_0 c82_5_138_0 c82_6_138_0 c82_7_138_0 c82_8_138_0 c82_9_138_0 tk_138_0 dg_138_0 sn_138_0 n0_138_0 lm_138_0 hm_138_0
      refine w_iload_n gz_37_138 rfl ?_
      refine w_aload_n gz_37_139 rfl ?_
      refine v_getI (j := 4) gz_37_140 rfl is_82 rd_5 rfl (fun v40 ev40 pv40 qv40 => ?_)
      have zv40 := ev40.trans c82_4_138_0
      refine w_icge (t := 173) gz_37_143 rfl (fun u41 => ?_) (fun u41 => ?_)
      ·
        refine w_aload_n gz_37_173 rfl ?_
        refine w_aload_n gz_37_174 rfl ?_
        refine v_getI (j := 7) gz_37_175 rfl is_82 rd_5 rfl (fun v42 ev42 pv42 qv42 => ?_)
        have zv42 := ev42.trans c82_7_138_0
        refine v_putI (j := 5) gz_37_178 rfl is_82 rd_5 rfl (by omega) (by omega) rfl (fun h43 fh43 => ?_)
        have gh43 : my_fr [(5, 5), (5, 6), (5, 7), (5, 8)] h h43 := my_fr.up gh_138_0 is_82 fh43 rfl
        have ce44 : h43 82 5 = v42 := (my_up_self fh43)
        have ce45 : h43 82 6 = p138_3 := ((my_up_fld fh43 (by decide)).trans c82_6_138_0)
        have ce46 : h43 82 7 = v42 := ((my_up_fld fh43 (by decide)).trans ev42.symm)
        have ce47 : h43 82 8 = 0 := ((my_up_fld fh43 (by decide)).trans c82_8_138_0)
        have sg : ∀ j : Int, h43 92 j = h138_0 92 j := fun j => ((my_up_role fh43 is_92 is_82 rfl).trans (rfl : h138_0 92 j = h138_0 92 j))
        exact J181_0 (1001) (p138_0) (p138_1) (v42) (p138_3) (v42) (0) h43 (gh43) (by omega) (by omega) (by omega) (by omega) (by omega) (by omega) (by omega) (by omega) (by omega) (by omega) (by omega) (by omega) (by omega) (by omega) (by omega) (by omega) (by omega) (by omega) (by omega) (by omega) (((my_up_fld fh43 (by decide)).trans ev40.symm).trans (by omega)) ((my_up_self fh43).trans (by omega)) (((my_up_fld fh43 (by decide)).trans c82_6_138_0).trans (by omega)) (((my_up_fld fh43 (by decide)).trans ev42.symm).trans (by omega)) (((my_up_fld fh43 (by decide)).trans c82_8_138_0).trans (by omega)) (((my_up_fld fh43 (by decide)).trans c82_9_138_0).trans (by omega)) (by omega) (by first | (intro t k a b; rw [sg]; exact dg_181_0 (by omega) k (by omega) (by omega)) | (intro t k a b; rw [sg]; exact dg_138_0 (by omega) k (by omega) (by omega)) | (intro t k a b; rw [sg, ← sg0, sgi k (by omega)]; omega) | (intro t; omega) | (intro t k a b; rw [sg]; rcases (by omega : k = p181_1 ∨ k < p181_1) with q | q <;> first | exact dg_138_0 (by omega) k (by omega) (by omega) | (subst q; omega))) (by first | assumption | omega | (subst_vars; omega)) (by first | assumption | omega | (subst_vars; omega)) (by omega)
      ·
        refine w_iload_n gz_37_146 rfl ?_
        refine w_iconst gz_37_147 (by decide) ?_
        refine w_icle (t := 173) gz_37_148 rfl (fun u48 => ?_) (fun u48 => ?_)
        ·
          refine w_aload_n gz_37_173 rfl ?_
          refine w_aload_n gz_37_174 rfl ?_
          refine v_getI (j := 7) gz_37_175 rfl is_82 rd_5 rfl (fun v49 ev49 pv49 qv49 => ?_)
          have zv49 := ev49.trans c82_7_138_0
          refine v_putI (j := 5) gz_37_178 rfl is_82 rd_5 rfl (by omega) (by omega) rfl (fun h50 fh50 => ?_)
          have gh50 : my_fr [(5, 5), (5, 6), (5, 7), (5, 8)] h h50 := my_fr.up gh_138_0 is_82 fh50 rfl
          have ce51 : h50 82 5 = v49 := (my_up_self fh50)
          have ce52 : h50 82 6 = p138_3 := ((my_up_fld fh50 (by decide)).trans c82_6_138_0)
          have ce53 : h50 82 7 = v49 := ((my_up_fld fh50 (by decide)).trans ev49.symm)
          have ce54 : h50 82 8 = 0 := ((my_up_fld fh50 (by decide)).trans c82_8_138_0)
          have sg : ∀ j : Int, h50 92 j = h138_0 92 j := fun j => ((my_up_role fh50 is_92 is_82 rfl).trans (rfl : h138_0 92 j = h138_0 92 j))
          exact J181_0 (1001) (p138_0) (p138_1) (v49) (p138_3) (v49) (0) h50 (gh50) (by omega) (by omega) (by omega) (by omega) (by omega) (by omega) (by omega) (by omega) (by omega) (by omega) (by omega) (by omega) (by omega) (by omega) (by omega) (by omega) (by omega) (by omega) (by omega) (by omega) (((my_up_fld fh50 (by decide)).trans ev40.symm).trans (by omega)) ((my_up_self fh50).trans (by omega)) (((my_up_fld fh50 (by decide)).trans c82_6_138_0).trans (by omega)) (((my_up_fld fh50 (by decide)).trans ev49.symm).trans (by omega)) (((my_up_fld fh50 (by decide)).trans c82_8_138_0).trans (by omega)) (((my_up_fld fh50 (by decide)).trans c82_9_138_0).trans (by omega)) (by omega) (by first | (intro t k a b; rw [sg]; exact dg_181_0 (by omega) k (by omega) (by omega)) | (intro t k a b; rw [sg]; exact dg_138_0 (by omega) k (by omega) (by omega)) | (intro t k a b; rw [sg, ← sg0, sgi k (by omega)]; omega) | (intro t; omega) | (intro t k a b; rw [sg]; rcases (by omega : k = p181_1 ∨ k < p181_1) with q | q <;> first | exact dg_138_0 (by omega) k (by omega) (by omega) | (subst q; omega))) (by first | assumption | omega | (subst_vars; omega)) (by first | assumption | omega | (subst_vars; omega)) (by omega)
        ·
          refine w_aload_n gz_37_151 rfl ?_
          refine w_getX (v := 92) gz_37_152 is_82 rd_5 rfl (by decide) rfl ?_
          refine w_iload_n gz_37_155 rfl ?_
          refine w_yald gz_37_156 is_92 rd_40 (by omega) (by omega) (fun v56 ev56 pv56 qv56 => ?_)
          refine w_inS (k := 0) (as := [(0, v56)]) (r := []) (ls0 := [(0, v56)]) gz_37_157 gm_38 rfl rfl rfl rfl rfl rfl ?_
          refine w_iload_n gz_38_0 rfl ?_
          refine w_bipush gz_38_1 (by decide) ?_
          refine w_iclt (t := 14) gz_38_3 rfl (fun u57 => ?_) (fun u57 => ?_)
          ·
            refine w_iload_n gz_38_14 rfl ?_
            refine w_bipush gz_38_15 (by decide) ?_
            refine w_iclt (t := 28) gz_38_17 rfl (fun u58 => ?_) (fun u58 => ?_)
            ·
              refine w_iload_n gz_38_28 rfl ?_
              refine w_bipush gz_38_29 (by decide) ?_
              refine w_icne (t := 38) gz_38_31 rfl (fun u59 => ?_) (fun u59 => by exfalso; omega)
              refine w_iconst gz_38_38 (by decide) ?_
              refine w_iret gz_38_39 gm_38 ?_
              show wp l rho (d + 1) 37 160 [(2, 82), (0, p138_0), (0, p138_1)] [(0, 4)] h138_0 Q
              refine w_aload_n gz_37_160 rfl ?_
              refine v_getI (j := 6) gz_37_161 rfl is_82 rd_5 rfl (fun v60 ev60 pv60 qv60 => ?_)
              have zv60 := ev60.trans c82_6_138_0
              refine w_icne (t := 173) gz_37_164 rfl (fun u61 => ?_) (fun u61 => ?_)
              ·
                refine w_aload_n gz_37_173 rfl ?_
                refine w_aload_n gz_37_174 rfl ?_
                refine v_getI (j := 7) gz_37_175 rfl is_82 rd_5 rfl (fun v62 ev62 pv62 qv62 => ?_)
                have zv62 := ev62.trans c82_7_138_0
                refine v_putI (j := 5) gz_37_178 rfl is_82 rd_5 rfl (by omega) (by omega) rfl (fun h63 fh63 => ?_)
                have gh63 : my_fr [(5, 5), (5, 6), (5, 7), (5, 8)] h h63 := my_fr.up gh_138_0 is_82 fh63 rfl
                have ce64 : h63 82 5 = v62 := (my_up_self fh63)
                have ce65 : h63 82 6 = v60 := ((my_up_fld fh63 (by decide)).trans ev60.symm)
                have ce66 : h63 82 7 = v62 := ((my_up_fld fh63 (by decide)).trans ev62.symm)
                have ce67 : h63 82 8 = 0 := ((my_up_fld fh63 (by decide)).trans c82_8_138_0)
                have sg : ∀ j : Int, h63 92 j = h138_0 92 j := fun j => ((my_up_role fh63 is_92 is_82 rfl).trans (rfl : h138_0 92 j = h138_0 92 j))
                exact J181_0 (1001) (p138_0) (p138_1) (v62) (v60) (v62) (0) h63 (gh63) (by omega) (by omega) (by omega) (by omega) (by omega) (by omega) (by omega) (by omega) (by omega) (by omega) (by omega) (by omega) (by omega) (by omega) (by omega) (by omega) (by omega) (by omega) (by omega) (by omega) (((my_up_fld fh63 (by decide)).trans ev40.symm).trans (by omega)) ((my_up_self fh63).trans (by omega)) (((my_up_fld fh63 (by decide)).trans ev60.symm).trans (by omega)) (((my_up_fld fh63 (by decide)).trans ev62.symm).trans (by omega)) (((my_up_fld fh63 (by decide)).trans c82_8_138_0).trans (by omega)) (((my_up_fld fh63 (by decide)).trans c82_9_138_0).trans (by omega)) (by omega) (by first | (intro t k a b; rw [sg]; exact dg_181_0 (by omega) k (by omega) (by omega)) | (intro t k a b; rw [sg]; exact dg_138_0 (by omega) k (by omega) (by omega)) | (intro t k a b; rw [sg, ← sg0, sgi k (by omega)]; omega) | (intro t; omega) | (intro t k a b; rw [sg]; rcases (by omega : k = p181_1 ∨ k < p181_1) with q | q <;> first | exact dg_138_0 (by omega) k (by omega) (by omega) | (subst q; omega))) (by first | assumption | omega | (subst_vars; omega)) (by first | assumption | omega | (subst_vars; omega)) (by omega)
              ·
                refine w_iinc (ls' := [(2, 82), (0, p138_0), (0, (p138_1 + 1))]) gz_37_167 rfl gm_37 rfl rfl rfl ⟨by omega, by omega⟩ ?_
                refine w_goto (t := 138) gz_37_170 rfl ?_
                have ce68 : h138_0 82 5 = p138_2 := c82_5_138_0
                have ce69 : h138_0 82 6 = v60 := ev60.symm
                have ce70 : h138_0 82 7 = p138_2 := c82_7_138_0
                have ce71 : h138_0 82 8 = 0 := c82_8_138_0
                have sg : ∀ j : Int, h138_0 92 j = h138_0 92 j := fun _ => rfl
                exact ih_138_0 (p138_0) ((p138_1 + 1)) (p138_2) (v60) h138_0 (gh_138_0) (by omega) (by omega) (by omega) (by omega) (by omega) (by omega) (by omega) (by omega) (by omega) (by omega) (by omega) (by omega) (by omega) (by omega) (by omega) (by omega) (ev40.symm.trans (by omega)) (c82_5_138_0.trans (by omega)) (ev60.symm.trans (by omega)) (c82_7_138_0.trans (by omega)) (c82_8_138_0.trans (by omega)) (c82_9_138_0.trans (by omega)) (by omega) (by first | (intro t k a b; rw [sg]; exact dg_181_0 (by omega) k (by omega) (by omega)) | (intro t k a b; rw [sg]; exact dg_138_0 (by omega) k (by omega) (by omega)) | (intro t k a b; rw [sg, ← sg0, sgi k (by omega)]; omega) | (intro t; omega) | (intro t k a b; rw [sg]; rcases (by omega : k = p138_1 ∨ k < p138_1) with q | q <;> first | exact dg_138_0 (by omega) k (by omega) (by omega) | (subst q; omega))) (by first | assumption | omega | (subst_vars; omega)) (by first | assumption | omega | (subst_vars; omega)) (by first | assumption | omega | (subst_vars; omega)) (by omega)
            ·
              refine w_iload_n gz_38_20 rfl ?_
              refine w_bipush gz_38_21 (by decide) ?_
              refine w_icgt (t := 28) gz_38_23 rfl (fun u72 => ?_) (fun u72 => ?_)
              ·
                refine w_iload_n gz_38_28 rfl ?_
                refine w_bipush gz_38_29 (by decide) ?_
                refine w_icne (t := 38) gz_38_31 rfl (fun u73 => ?_) (fun u73 => ?_)
                ·
                  refine w_iconst gz_38_38 (by decide) ?_
                  refine w_iret gz_38_39 gm_38 ?_
                  show wp l rho (d + 1) 37 160 [(2, 82), (0, p138_0), (0, p138_1)] [(0, 4)] h138_0 Q
                  refine w_aload_n gz_37_160 rfl ?_
                  refine v_getI (j := 6) gz_37_161 rfl is_82 rd_5 rfl (fun v74 ev74 pv74 qv74 => ?_)
                  have zv74 := ev74.trans c82_6_138_0
                  refine w_icne (t := 173) gz_37_164 rfl (fun u75 => ?_) (fun u75 => ?_)
                  ·
                    refine w_aload_n gz_37_173 rfl ?_
                    refine w_aload_n gz_37_174 rfl ?_
                    refine v_getI (j := 7) gz_37_175 rfl is_82 rd_5 rfl (fun v76 ev76 pv76 qv76 => ?_)
                    have zv76 := ev76.trans c82_7_138_0
                    refine v_putI (j := 5) gz_37_178 rfl is_82 rd_5 rfl (by omega) (by omega) rfl (fun h77 fh77 => ?_)
                    have gh77 : my_fr [(5, 5), (5, 6), (5, 7), (5, 8)] h h77 := my_fr.up gh_138_0 is_82 fh77 rfl
                    have ce78 : h77 82 5 = v76 := (my_up_self fh77)
                    have ce79 : h77 82 6 = v74 := ((my_up_fld fh77 (by decide)).trans ev74.symm)
                    have ce80 : h77 82 7 = v76 := ((my_up_fld fh77 (by decide)).trans ev76.symm)
                    have ce81 : h77 82 8 = 0 := ((my_up_fld fh77 (by decide)).trans c82_8_138_0)
                    have sg : ∀ j : Int, h77 92 j = h138_0 92 j := fun j => ((my_up_role fh77 is_92 is_82 rfl).trans (rfl : h138_0 92 j = h138_0 92 j))
                    exact J181_0 (1001) (p138_0) (p138_1) (v76) (v74) (v76) (0) h77 (gh77) (by omega) (by omega) (by omega) (by omega) (by omega) (by omega) (by omega) (by omega) (by omega) (by omega) (by omega) (by omega) (by omega) (by omega) (by omega) (by omega) (by omega) (by omega) (by omega) (by omega) (((my_up_fld fh77 (by decide)).trans ev40.symm).trans (by omega)) ((my_up_self fh77).trans (by omega)) (((my_up_fld fh77 (by decide)).trans ev74.symm).trans (by omega)) (((my_up_fld fh77 (by decide)).trans ev76.symm).trans (by omega)) (((my_up_fld fh77 (by decide)).trans c82_8_138_0).trans (by omega)) (((my_up_fld fh77 (by decide)).trans c82_9_138_0).trans (by omega)) (by omega) (by first | (intro t k a b; rw [sg]; exact dg_181_0 (by omega) k (by omega) (by omega)) | (intro t k a b; rw [sg]; exact dg_138_0 (by omega) k (by omega) (by omega)) | (intro t k a b; rw [sg, ← sg0, sgi k (by omega)]; omega) | (intro t; omega) | (intro t k a b; rw [sg]; rcases (by omega : k = p181_1 ∨ k < p181_1) with q | q <;> first | exact dg_138_0 (by omega) k (by omega) (by omega) | (subst q; omega))) (by first | assumption | omega | (subst_vars; omega)) (by first | assumption | omega | (subst_vars; omega)) (by omega)
                  ·
                    refine w_iinc (ls' := [(2, 82), (0, p138_0), (0, (p138_1 + 1))]) gz_37_167 rfl gm_37 rfl rfl rfl ⟨by omega, by omega⟩ ?_
                    refine w_goto (t := 138) gz_37_170 rfl ?_
                    have ce82 : h138_0 82 5 = p138_2 := c82_5_138_0
                    have ce83 : h138_0 82 6 = v74 := ev74.symm
                    have ce84 : h138_0 82 7 = p138_2 := c82_7_138_0
                    have ce85 : h138_0 82 8 = 0 := c82_8_138_0
                    have sg : ∀ j : Int, h138_0 92 j = h138_0 92 j := fun _ => rfl
                    exact ih_138_0 (p138_0) ((p138_1 + 1)) (p138_2) (v74) h138_0 (gh_138_0) (by omega) (by omega) (by omega) (by omega) (by omega) (by omega) (by omega) (by omega) (by omega) (by omega) (by omega) (by omega) (by omega) (by omega) (by omega) (by omega) (ev40.symm.trans (by omega)) (c82_5_138_0.trans (by omega)) (ev74.symm.trans (by omega)) (c82_7_138_0.trans (by omega)) (c82_8_138_0.trans (by omega)) (c82_9_138_0.trans (by omega)) (by omega) (by first | (intro t k a b; rw [sg]; exact dg_181_0 (by omega) k (by omega) (by omega)) | (intro t k a b; rw [sg]; exact dg_138_0 (by omega) k (by omega) (by omega)) | (intro t k a b; rw [sg, ← sg0, sgi k (by omega)]; omega) | (intro t; omega) | (intro t k a b; rw [sg]; rcases (by omega : k = p138_1 ∨ k < p138_1) with q | q <;> first | exact dg_138_0 (by omega) k (by omega) (by omega) | (subst q; omega))) (by first | assumption | omega | (subst_vars; omega)) (by first | assumption | omega | (subst_vars; omega)) (by first | assumption | omega | (subst_vars; omega)) (by omega)
                ·
                  refine w_iconst gz_38_34 (by decide) ?_
                  refine w_goto (t := 39) gz_38_35 rfl ?_
                  refine w_iret gz_38_39 gm_38 ?_
                  show wp l rho (d + 1) 37 160 [(2, 82), (0, p138_0), (0, p138_1)] [(0, 3)] h138_0 Q
                  refine w_aload_n gz_37_160 rfl ?_
                  refine v_getI (j := 6) gz_37_161 rfl is_82 rd_5 rfl (fun v86 ev86 pv86 qv86 => ?_)
                  have zv86 := ev86.trans c82_6_138_0
                  refine w_icne (t := 173) gz_37_164 rfl (fun u87 => ?_) (fun u87 => ?_)
                  ·
                    refine w_aload_n gz_37_173 rfl ?_
                    refine w_aload_n gz_37_174 rfl ?_
                    refine v_getI (j := 7) gz_37_175 rfl is_82 rd_5 rfl (fun v88 ev88 pv88 qv88 => ?_)
                    have zv88 := ev88.trans c82_7_138_0
                    refine v_putI (j := 5) gz_37_178 rfl is_82 rd_5 rfl (by omega) (by omega) rfl (fun h89 fh89 => ?_)
                    have gh89 : my_fr [(5, 5), (5, 6), (5, 7), (5, 8)] h h89 := my_fr.up gh_138_0 is_82 fh89 rfl
                    have ce90 : h89 82 5 = v88 := (my_up_self fh89)
                    have ce91 : h89 82 6 = v86 := ((my_up_fld fh89 (by decide)).trans ev86.symm)
                    have ce92 : h89 82 7 = v88 := ((my_up_fld fh89 (by decide)).trans ev88.symm)
                    have ce93 : h89 82 8 = 0 := ((my_up_fld fh89 (by decide)).trans c82_8_138_0)
                    have sg : ∀ j : Int, h89 92 j = h138_0 92 j := fun j => ((my_up_role fh89 is_92 is_82 rfl).trans (rfl : h138_0 92 j = h138_0 92 j))
                    exact J181_0 (1001) (p138_0) (p138_1) (v88) (v86) (v88) (0) h89 (gh89) (by omega) (by omega) (by omega) (by omega) (by omega) (by omega) (by omega) (by omega) (by omega) (by omega) (by omega) (by omega) (by omega) (by omega) (by omega) (by omega) (by omega) (by omega) (by omega) (by omega) (((my_up_fld fh89 (by decide)).trans ev40.symm).trans (by omega)) ((my_up_self fh89).trans (by omega)) (((my_up_fld fh89 (by decide)).trans ev86.symm).trans (by omega)) (((my_up_fld fh89 (by decide)).trans ev88.symm).trans (by omega)) (((my_up_fld fh89 (by decide)).trans c82_8_138_0).trans (by omega)) (((my_up_fld fh89 (by decide)).trans c82_9_138_0).trans (by omega)) (by omega) (by first | (intro t k a b; rw [sg]; exact dg_181_0 (by omega) k (by omega) (by omega)) | (intro t k a b; rw [sg]; exact dg_138_0 (by omega) k (by omega) (by omega)) | (intro t k a b; rw [sg, ← sg0, sgi k (by omega)]; omega) | (intro t; omega) | (intro t k a b; rw [sg]; rcases (by omega : k = p181_1 ∨ k < p181_1) with q | q <;> first | exact dg_138_0 (by omega) k (by omega) (by omega) | (subst q; omega))) (by first | assumption | omega | (subst_vars; omega)) (by first | assumption | omega | (subst_vars; omega)) (by omega)
                  ·
                    refine w_iinc (ls' := [(2, 82), (0, p138_0), (0, (p138_1 + 1))]) gz_37_167 rfl gm_37 rfl rfl rfl ⟨by omega, by omega⟩ ?_
                    refine w_goto (t := 138) gz_37_170 rfl ?_
                    have ce94 : h138_0 82 5 = p138_2 := c82_5_138_0
                    have ce95 : h138_0 82 6 = v86 := ev86.symm
                    have ce96 : h138_0 82 7 = p138_2 := c82_7_138_0
                    have ce97 : h138_0 82 8 = 0 := c82_8_138_0
                    have sg : ∀ j : Int, h138_0 92 j = h138_0 92 j := fun _ => rfl
                    exact ih_138_0 (p138_0) ((p138_1 + 1)) (p138_2) (v86) h138_0 (gh_138_0) (by omega) (by omega) (by omega) (by omega) (by omega) (by omega) (by omega) (by omega) (by omega) (by omega) (by omega) (by omega) (by omega) (by omega) (by omega) (by omega) (ev40.symm.trans (by omega)) (c82_5_138_0.trans (by omega)) (ev86.symm.trans (by omega)) (c82_7_138_0.trans (by omega)) (c82_8_138_0.trans (by omega)) (c82_9_138_0.trans (by omega)) (by omega) (by first | (intro t k a b; rw [sg]; exact dg_181_0 (by omega) k (by omega) (by omega)) | (intro t k a b; rw [sg]; exact dg_138_0 (by omega) k (by omega) (by omega)) | (intro t k a b; rw [sg, ← sg0, sgi k (by omega)]; omega) | (intro t; omega) | (intro t k a b; rw [sg]; rcases (by omega : k = p138_1 ∨ k < p138_1) with q | q <;> first | exact dg_138_0 (by omega) k (by omega) (by omega) | (subst q; omega))) (by first | assumption | omega | (subst_vars; omega)) (by first | assumption | omega | (subst_vars; omega)) (by first | assumption | omega | (subst_vars; omega)) (by omega)
              ·
                refine w_iconst gz_38_26 (by decide) ?_
                refine w_iret gz_38_27 gm_38 ?_
                show wp l rho (d + 1) 37 160 [(2, 82), (0, p138_0), (0, p138_1)] [(0, 2)] h138_0 Q
                refine w_aload_n gz_37_160 rfl ?_
                refine v_getI (j := 6) gz_37_161 rfl is_82 rd_5 rfl (fun v98 ev98 pv98 qv98 => ?_)
                have zv98 := ev98.trans c82_6_138_0
                refine w_icne (t := 173) gz_37_164 rfl (fun u99 => ?_) (fun u99 => ?_)
                ·
                  refine w_aload_n gz_37_173 rfl ?_
                  refine w_aload_n gz_37_174 rfl ?_
                  refine v_getI (j := 7) gz_37_175 rfl is_82 rd_5 rfl (fun v100 ev100 pv100 qv100 => ?_)
                  have zv100 := ev100.trans c82_7_138_0
                  refine v_putI (j := 5) gz_37_178 rfl is_82 rd_5 rfl (by omega) (by omega) rfl (fun h101 fh101 => ?_)
                  have gh101 : my_fr [(5, 5), (5, 6), (5, 7), (5, 8)] h h101 := my_fr.up gh_138_0 is_82 fh101 rfl
                  have ce102 : h101 82 5 = v100 := (my_up_self fh101)
                  have ce103 : h101 82 6 = v98 := ((my_up_fld fh101 (by decide)).trans ev98.symm)
                  have ce104 : h101 82 7 = v100 := ((my_up_fld fh101 (by decide)).trans ev100.symm)
                  have ce105 : h101 82 8 = 0 := ((my_up_fld fh101 (by decide)).trans c82_8_138_0)
                  have sg : ∀ j : Int, h101 92 j = h138_0 92 j := fun j => ((my_up_role fh101 is_92 is_82 rfl).trans (rfl : h138_0 92 j = h138_0 92 j))
                  exact J181_0 (1001) (p138_0) (p138_1) (v100) (v98) (v100) (0) h101 (gh101) (by omega) (by omega) (by omega) (by omega) (by omega) (by omega) (by omega) (by omega) (by omega) (by omega) (by omega) (by omega) (by omega) (by omega) (by omega) (by omega) (by omega) (by omega) (by omega) (by omega) (((my_up_fld fh101 (by decide)).trans ev40.symm).trans (by omega)) ((my_up_self fh101).trans (by omega)) (((my_up_fld fh101 (by decide)).trans ev98.symm).trans (by omega)) (((my_up_fld fh101 (by decide)).trans ev100.symm).trans (by omega)) (((my_up_fld fh101 (by decide)).trans c82_8_138_0).trans (by omega)) (((my_up_fld fh101 (by decide)).trans c82_9_138_0).trans (by omega)) (by omega) (by first | (intro t k a b; rw [sg]; exact dg_181_0 (by omega) k (by omega) (by omega)) | (intro t k a b; rw [sg]; exact dg_138_0 (by omega) k (by omega) (by omega)) | (intro t k a b; rw [sg, ← sg0, sgi k (by omega)]; omega) | (intro t; omega) | (intro t k a b; rw [sg]; rcases (by omega : k = p181_1 ∨ k < p181_1) with q | q <;> first | exact dg_138_0 (by omega) k (by omega) (by omega) | (subst q; omega))) (by first | assumption | omega | (subst_vars; omega)) (by first | assumption | omega | (subst_vars; omega)) (by omega)
                ·
                  refine w_iinc (ls' := [(2, 82), (0, p138_0), (0, (p138_1 + 1))]) gz_37_167 rfl gm_37 rfl rfl rfl ⟨by omega, by omega⟩ ?_
                  refine w_goto (t := 138) gz_37_170 rfl ?_
                  have ce106 : h138_0 82 5 = p138_2 := c82_5_138_0
                  have ce107 : h138_0 82 6 = v98 := ev98.symm
                  have ce108 : h138_0 82 7 = p138_2 := c82_7_138_0
                  have ce109 : h138_0 82 8 = 0 := c82_8_138_0
                  have sg : ∀ j : Int, h138_0 92 j = h138_0 92 j := fun _ => rfl
                  exact ih_138_0 (p138_0) ((p138_1 + 1)) (p138_2) (v98) h138_0 (gh_138_0) (by omega) (by omega) (by omega) (by omega) (by omega) (by omega) (by omega) (by omega) (by omega) (by omega) (by omega) (by omega) (by omega) (by omega) (by omega) (by omega) (ev40.symm.trans (by omega)) (c82_5_138_0.trans (by omega)) (ev98.symm.trans (by omega)) (c82_7_138_0.trans (by omega)) (c82_8_138_0.trans (by omega)) (c82_9_138_0.trans (by omega)) (by omega) (by first | (intro t k a b; rw [sg]; exact dg_181_0 (by omega) k (by omega) (by omega)) | (intro t k a b; rw [sg]; exact dg_138_0 (by omega) k (by omega) (by omega)) | (intro t k a b; rw [sg, ← sg0, sgi k (by omega)]; omega) | (intro t; omega) | (intro t k a b; rw [sg]; rcases (by omega : k = p138_1 ∨ k < p138_1) with q | q <;> first | exact dg_138_0 (by omega) k (by omega) (by omega) | (subst q; omega))) (by first | assumption | omega | (subst_vars; omega)) (by first | assumption | omega | (subst_vars; omega)) (by first | assumption | omega | (subst_vars; omega)) (by omega)
          ·
            refine w_iload_n gz_38_6 rfl ?_
            refine w_bipush gz_38_7 (by decide) ?_
            refine w_icgt (t := 14) gz_38_9 rfl (fun u110 => ?_) (fun u110 => ?_)
            ·
              refine w_iload_n gz_38_14 rfl ?_
              refine w_bipush gz_38_15 (by decide) ?_
              refine w_iclt (t := 28) gz_38_17 rfl (fun u111 => by exfalso; omega) (fun u111 => ?_)
              refine w_iload_n gz_38_20 rfl ?_
              refine w_bipush gz_38_21 (by decide) ?_
              refine w_icgt (t := 28) gz_38_23 rfl (fun u112 => ?_) (fun u112 => by exfalso; omega)
              refine w_iload_n gz_38_28 rfl ?_
              refine w_bipush gz_38_29 (by decide) ?_
              refine w_icne (t := 38) gz_38_31 rfl (fun u113 => ?_) (fun u113 => by exfalso; omega)
              refine w_iconst gz_38_38 (by decide) ?_
              refine w_iret gz_38_39 gm_38 ?_
              show wp l rho (d + 1) 37 160 [(2, 82), (0, p138_0), (0, p138_1)] [(0, 4)] h138_0 Q
              refine w_aload_n gz_37_160 rfl ?_
              refine v_getI (j := 6) gz_37_161 rfl is_82 rd_5 rfl (fun v114 ev114 pv114 qv114 => ?_)
              have zv114 := ev114.trans c82_6_138_0
              refine w_icne (t := 173) gz_37_164 rfl (fun u115 => ?_) (fun u115 => ?_)
              ·
                refine w_aload_n gz_37_173 rfl ?_
                refine w_aload_n gz_37_174 rfl ?_
                refine v_getI (j := 7) gz_37_175 rfl is_82 rd_5 rfl (fun v116 ev116 pv116 qv116 => ?_)
                have zv116 := ev116.trans c82_7_138_0
                refine v_putI (j := 5) gz_37_178 rfl is_82 rd_5 rfl (by omega) (by omega) rfl (fun h117 fh117 => ?_)
                have gh117 : my_fr [(5, 5), (5, 6), (5, 7), (5, 8)] h h117 := my_fr.up gh_138_0 is_82 fh117 rfl
                have ce118 : h117 82 5 = v116 := (my_up_self fh117)
                have ce119 : h117 82 6 = v114 := ((my_up_fld fh117 (by decide)).trans ev114.symm)
                have ce120 : h117 82 7 = v116 := ((my_up_fld fh117 (by decide)).trans ev116.symm)
                have ce121 : h117 82 8 = 0 := ((my_up_fld fh117 (by decide)).trans c82_8_138_0)
                have sg : ∀ j : Int, h117 92 j = h138_0 92 j := fun j => ((my_up_role fh117 is_92 is_82 rfl).trans (rfl : h138_0 92 j = h138_0 92 j))
                exact J181_0 (1001) (p138_0) (p138_1) (v116) (v114) (v116) (0) h117 (gh117) (by omega) (by omega) (by omega) (by omega) (by omega) (by omega) (by omega) (by omega) (by omega) (by omega) (by omega) (by omega) (by omega) (by omega) (by omega) (by omega) (by omega) (by omega) (by omega) (by omega) (((my_up_fld fh117 (by decide)).trans ev40.symm).trans (by omega)) ((my_up_self fh117).trans (by omega)) (((my_up_fld fh117 (by decide)).trans ev114.symm).trans (by omega)) (((my_up_fld fh117 (by decide)).trans ev116.symm).trans (by omega)) (((my_up_fld fh117 (by decide)).trans c82_8_138_0).trans (by omega)) (((my_up_fld fh117 (by decide)).trans c82_9_138_0).trans (by omega)) (by omega) (by first | (intro t k a b; rw [sg]; exact dg_181_0 (by omega) k (by omega) (by omega)) | (intro t k a b; rw [sg]; exact dg_138_0 (by omega) k (by omega) (by omega)) | (intro t k a b; rw [sg, ← sg0, sgi k (by omega)]; omega) | (intro t; omega) | (intro t k a b; rw [sg]; rcases (by omega : k = p181_1 ∨ k < p181_1) with q | q <;> first | exact dg_138_0 (by omega) k (by omega) (by omega) | (subst q; omega))) (by first | assumption | omega | (subst_vars; omega)) (by first | assumption | omega | (subst_vars; omega)) (by omega)
              ·
                refine w_iinc (ls' := [(2, 82), (0, p138_0), (0, (p138_1 + 1))]) gz_37_167 rfl gm_37 rfl rfl rfl ⟨by omega, by omega⟩ ?_
                refine w_goto (t := 138) gz_37_170 rfl ?_
                have ce122 : h138_0 82 5 = p138_2 := c82_5_138_0
                have ce123 : h138_0 82 6 = v114 := ev114.symm
                have ce124 : h138_0 82 7 = p138_2 := c82_7_138_0
                have ce125 : h138_0 82 8 = 0 := c82_8_138_0
                have sg : ∀ j : Int, h138_0 92 j = h138_0 92 j := fun _ => rfl
                exact ih_138_0 (p138_0) ((p138_1 + 1)) (p138_2) (v114) h138_0 (gh_138_0) (by omega) (by omega) (by omega) (by omega) (by omega) (by omega) (by omega) (by omega) (by omega) (by omega) (by omega) (by omega) (by omega) (by omega) (by omega) (by omega) (ev40.symm.trans (by omega)) (c82_5_138_0.trans (by omega)) (ev114.symm.trans (by omega)) (c82_7_138_0.trans (by omega)) (c82_8_138_0.trans (by omega)) (c82_9_138_0.trans (by omega)) (by omega) (by first | (intro t k a b; rw [sg]; exact dg_181_0 (by omega) k (by omega) (by omega)) | (intro t k a b; rw [sg]; exact dg_138_0 (by omega) k (by omega) (by omega)) | (intro t k a b; rw [sg, ← sg0, sgi k (by omega)]; omega) | (intro t; omega) | (intro t k a b; rw [sg]; rcases (by omega : k = p138_1 ∨ k < p138_1) with q | q <;> first | exact dg_138_0 (by omega) k (by omega) (by omega) | (subst q; omega))) (by first | assumption | omega | (subst_vars; omega)) (by first | assumption | omega | (subst_vars; omega)) (by first | assumption | omega | (subst_vars; omega)) (by omega)
            ·
              refine w_iconst gz_38_12 (by decide) ?_
              refine w_iret gz_38_13 gm_38 ?_
              show wp l rho (d + 1) 37 160 [(2, 82), (0, p138_0), (0, p138_1)] [(0, 1)] h138_0 Q
              refine w_aload_n gz_37_160 rfl ?_
              refine v_getI (j := 6) gz_37_161 rfl is_82 rd_5 rfl (fun v126 ev126 pv126 qv126 => ?_)
              have zv126 := ev126.trans c82_6_138_0
              refine w_icne (t := 173) gz_37_164 rfl (fun u127 => ?_) (fun u127 => ?_)
              ·
                refine w_aload_n gz_37_173 rfl ?_
                refine w_aload_n gz_37_174 rfl ?_
                refine v_getI (j := 7) gz_37_175 rfl is_82 rd_5 rfl (fun v128 ev128 pv128 qv128 => ?_)
                have zv128 := ev128.trans c82_7_138_0
                refine v_putI (j := 5) gz_37_178 rfl is_82 rd_5 rfl (by omega) (by omega) rfl (fun h129 fh129 => ?_)
                have gh129 : my_fr [(5, 5), (5, 6), (5, 7), (5, 8)] h h129 := my_fr.up gh_138_0 is_82 fh129 rfl
                have ce130 : h129 82 5 = v128 := (my_up_self fh129)
                have ce131 : h129 82 6 = v126 := ((my_up_fld fh129 (by decide)).trans ev126.symm)
                have ce132 : h129 82 7 = v128 := ((my_up_fld fh129 (by decide)).trans ev128.symm)
                have ce133 : h129 82 8 = 0 := ((my_up_fld fh129 (by decide)).trans c82_8_138_0)
                have sg : ∀ j : Int, h129 92 j = h138_0 92 j := fun j => ((my_up_role fh129 is_92 is_82 rfl).trans (rfl : h138_0 92 j = h138_0 92 j))
                exact J181_0 (1001) (p138_0) (p138_1) (v128) (v126) (v128) (0) h129 (gh129) (by omega) (by omega) (by omega) (by omega) (by omega) (by omega) (by omega) (by omega) (by omega) (by omega) (by omega) (by omega) (by omega) (by omega) (by omega) (by omega) (by omega) (by omega) (by omega) (by omega) (((my_up_fld fh129 (by decide)).trans ev40.symm).trans (by omega)) ((my_up_self fh129).trans (by omega)) (((my_up_fld fh129 (by decide)).trans ev126.symm).trans (by omega)) (((my_up_fld fh129 (by decide)).trans ev128.symm).trans (by omega)) (((my_up_fld fh129 (by decide)).trans c82_8_138_0).trans (by omega)) (((my_up_fld fh129 (by decide)).trans c82_9_138_0).trans (by omega)) (by omega) (by first | (intro t k a b; rw [sg]; exact dg_181_0 (by omega) k (by omega) (by omega)) | (intro t k a b; rw [sg]; exact dg_138_0 (by omega) k (by omega) (by omega)) | (intro t k a b; rw [sg, ← sg0, sgi k (by omega)]; omega) | (intro t; omega) | (intro t k a b; rw [sg]; rcases (by omega : k = p181_1 ∨ k < p181_1) with q | q <;> first | exact dg_138_0 (by omega) k (by omega) (by omega) | (subst q; omega))) (by first | assumption | omega | (subst_vars; omega)) (by first | assumption | omega | (subst_vars; omega)) (by omega)
              ·
                refine w_iinc (ls' := [(2, 82), (0, p138_0), (0, (p138_1 + 1))]) gz_37_167 rfl gm_37 rfl rfl rfl ⟨by omega, by omega⟩ ?_
                refine w_goto (t := 138) gz_37_170 rfl ?_
                have ce134 : h138_0 82 5 = p138_2 := c82_5_138_0
                have ce135 : h138_0 82 6 = v126 := ev126.symm
                have ce136 : h138_0 82 7 = p138_2 := c82_7_138_0
                have ce137 : h138_0 82 8 = 0 := c82_8_138_0
                have sg : ∀ j : Int, h138_0 92 j = h138_0 92 j := fun _ => rfl
                exact ih_138_0 (p138_0) ((p138_1 + 1)) (p138_2) (v126) h138_0 (gh_138_0) (by omega) (by omega) (by omega) (by omega) (by omega) (by omega) (by omega) (by omega) (by omega) (by omega) (by omega) (by omega) (by omega) (by omega) (by omega) (by omega) (ev40.symm.trans (by omega)) (c82_5_138_0.trans (by omega)) (ev126.symm.trans (by omega)) (c82_7_138_0.trans (by omega)) (c82_8_138_0.trans (by omega)) (c82_9_138_0.trans (by omega)) (by omega) (by first | (intro t k a b; rw [sg]; exact dg_181_0 (by omega) k (by omega) (by omega)) | (intro t k a b; rw [sg]; exact dg_138_0 (by omega) k (by omega) (by omega)) | (intro t k a b; rw [sg, ← sg0, sgi k (by omega)]; omega) | (intro t; omega) | (intro t k a b; rw [sg]; rcases (by omega : k = p138_1 ∨ k < p138_1) with q | q <;> first | exact dg_138_0 (by omega) k (by omega) (by omega) | (subst q; omega))) (by first | assumption | omega | (subst_vars; omega)) (by first | assumption | omega | (subst_vars; omega)) (by first | assumption | omega | (subst_vars; omega)) (by omega)
  have J0_0 : ∀ (n : Nat) (p0_0 : Int) (h0_0 : my_H), my_fr [(5, 5), (5, 6), (5, 7), (5, 8)] h h0_0 → 1 ≤ k82_4 → 1 ≤ p0_0 → p0_0 ≤ 1000 → k82_5 ≤ 999 → p0_0 ≤ k82_4 → k82_5 ≤ (p0_0 - 1) → k82_5 ≤ (k82_4 - 1) → h0_0 82 4 = k82_4 → h0_0 82 5 = p0_0 → h0_0 82 9 = 0 → 1001 - h0_0 82 5 ≤ (n : Int) → wp l rho (d + 1) 37 0 [(2, 82), (9, 0), (9, 0)] [] h0_0 Q := by
    intro n
    induction n with
    | zero => intro p0_0 h0_0 gh_0_0 q0_0_0 q1_0_0 q2_0_0 q3_0_0 q4_0_0 q5_0_0 q6_0_0 c82_4_0_0 c82_5_0_0 c82_9_0_0 hm_0_0; exfalso; omega
    | succ n ih_0_0 =>
      intro p0_0 h0_0 gh_0_0 q0_0_0 q1_0_0 q2_0_0 q3_0_0 q4_0_0 q5_0_0 q6_0_0 c82_4_0_0 c82_5_0_0 c82_9_0_0 hm_0_0
      refine w_aload_n gz_37_0 rfl ?_
      refine v_getI (j := 5) gz_37_1 rfl is_82 rd_5 rfl (fun v138 ev138 pv138 qv138 => ?_)
      have zv138 := ev138.trans c82_5_0_0
      refine w_aload_n gz_37_4 rfl ?_
      refine v_getI (j := 4) gz_37_5 rfl is_82 rd_5 rfl (fun v139 ev139 pv139 qv139 => ?_)
      have zv139 := ev139.trans c82_4_0_0
      refine w_icge (t := 52) gz_37_8 rfl (fun u140 => ?_) (fun u140 => ?_)
      ·
        refine w_aload_n gz_37_52 rfl ?_
        refine w_aload_n gz_37_53 rfl ?_
        refine v_getI (j := 5) gz_37_54 rfl is_82 rd_5 rfl (fun v141 ev141 pv141 qv141 => ?_)
        have zv141 := ev141.trans ev138.symm
        refine v_putI (j := 7) gz_37_57 rfl is_82 rd_5 rfl (by omega) (by omega) rfl (fun h142 fh142 => ?_)
        have gh142 : my_fr [(5, 5), (5, 6), (5, 7), (5, 8)] h h142 := my_fr.up gh_0_0 is_82 fh142 rfl
        refine w_aload_n gz_37_60 rfl ?_
        refine w_aload_n gz_37_61 rfl ?_
        refine v_getI (j := 5) gz_37_62 rfl is_82 rd_5 rfl (fun v143 ev143 pv143 qv143 => ?_)
        have zv143 := ev143.trans ((my_up_fld fh142 (by decide)).trans ev141.symm)
        refine w_aload_n gz_37_65 rfl ?_
        refine v_getI (j := 4) gz_37_66 rfl is_82 rd_5 rfl (fun v144 ev144 pv144 qv144 => ?_)
        have zv144 := ev144.trans ((my_up_fld fh142 (by decide)).trans ev139.symm)
        refine w_icge (t := 87) gz_37_69 rfl (fun u145 => ?_) (fun u145 => by exfalso; omega)
        refine w_iconst gz_37_87 (by decide) ?_
        refine v_putI (j := 6) gz_37_88 rfl is_82 rd_5 rfl (by omega) (by omega) rfl (fun h146 fh146 => ?_)
        have gh146 : my_fr [(5, 5), (5, 6), (5, 7), (5, 8)] h h146 := my_fr.up gh142 is_82 fh146 rfl
        refine w_aload_n gz_37_91 rfl ?_
        refine v_getI (j := 6) gz_37_92 rfl is_82 rd_5 rfl (fun v147 ev147 pv147 qv147 => ?_)
        have zv147 := ev147.trans (my_up_self fh146)
        refine w_ifne (t := 99) gz_37_95 rfl (fun u148 => by exfalso; omega) (fun u148 => ?_)
        have c149 := ev147.symm
        have c150 := ((my_up_fld fh146 (by decide)).trans ((my_up_fld fh142 (by decide)).trans c82_9_0_0))
        exact w_vret gz_37_98 gm_37 (k0 h146 (gh146) (by omega) (by omega) (by omega))
      ·
        refine w_aload_n gz_37_11 rfl ?_
        refine w_getX (v := 92) gz_37_12 is_82 rd_5 rfl (by decide) rfl ?_
        refine w_aload_n gz_37_15 rfl ?_
        refine v_getI (j := 5) gz_37_16 rfl is_82 rd_5 rfl (fun v152 ev152 pv152 qv152 => ?_)
        have zv152 := ev152.trans ev138.symm
        refine w_yald gz_37_19 is_92 rd_40 (by omega) (by omega) (fun v153 ev153 pv153 qv153 => ?_)
        refine w_bipush gz_37_20 (by decide) ?_
        refine w_iceq (t := 39) gz_37_22 rfl (fun u154 => ?_) (fun u154 => ?_)
        ·
          refine w_aload_n gz_37_39 rfl ?_
          refine w_dup gz_37_40 rfl ?_
          refine v_getI (j := 5) gz_37_41 rfl is_82 rd_5 rfl (fun v155 ev155 pv155 qv155 => ?_)
          have zv155 := ev155.trans ev152.symm
          refine w_iconst gz_37_44 (by decide) ?_
          refine w_iadd gz_37_45 ⟨by omega, by omega⟩ ?_
          refine v_putI (j := 5) gz_37_46 rfl is_82 rd_5 rfl (by omega) (by omega) rfl (fun h156 fh156 => ?_)
          have gh156 : my_fr [(5, 5), (5, 6), (5, 7), (5, 8)] h h156 := my_fr.up gh_0_0 is_82 fh156 rfl
          refine w_goto (t := 0) gz_37_49 rfl ?_
          have ce157 : h156 82 5 = (v155 + 1) := (my_up_self fh156)
          exact ih_0_0 ((v155 + 1)) h156 (gh156) (by omega) (by omega) (by omega) (by omega) (by omega) (by omega) (by omega) (((my_up_fld fh156 (by decide)).trans ev139.symm).trans (by omega)) ((my_up_self fh156).trans (by omega)) (((my_up_fld fh156 (by decide)).trans c82_9_0_0).trans (by omega)) (by omega)
        ·
          refine w_aload_n gz_37_25 rfl ?_
          refine w_getX (v := 92) gz_37_26 is_82 rd_5 rfl (by decide) rfl ?_
          refine w_aload_n gz_37_29 rfl ?_
          refine v_getI (j := 5) gz_37_30 rfl is_82 rd_5 rfl (fun v159 ev159 pv159 qv159 => ?_)
          have zv159 := ev159.trans ev152.symm
          refine w_yald gz_37_33 is_92 rd_40 (by omega) (by omega) (fun v160 ev160 pv160 qv160 => ?_)
          have wv160 : v159 = v152 := by omega
          rw [wv160] at ev160
          have zv160 := ev160.trans ev153.symm
          refine w_bipush gz_37_34 (by decide) ?_
          refine w_icne (t := 52) gz_37_36 rfl (fun u161 => ?_) (fun u161 => ?_)
          ·
            refine w_aload_n gz_37_52 rfl ?_
            refine w_aload_n gz_37_53 rfl ?_
            refine v_getI (j := 5) gz_37_54 rfl is_82 rd_5 rfl (fun v162 ev162 pv162 qv162 => ?_)
            have zv162 := ev162.trans ev159.symm
            refine v_putI (j := 7) gz_37_57 rfl is_82 rd_5 rfl (by omega) (by omega) rfl (fun h163 fh163 => ?_)
            have gh163 : my_fr [(5, 5), (5, 6), (5, 7), (5, 8)] h h163 := my_fr.up gh_0_0 is_82 fh163 rfl
            refine w_aload_n gz_37_60 rfl ?_
            refine w_aload_n gz_37_61 rfl ?_
            refine v_getI (j := 5) gz_37_62 rfl is_82 rd_5 rfl (fun v164 ev164 pv164 qv164 => ?_)
            have zv164 := ev164.trans ((my_up_fld fh163 (by decide)).trans ev162.symm)
            refine w_aload_n gz_37_65 rfl ?_
            refine v_getI (j := 4) gz_37_66 rfl is_82 rd_5 rfl (fun v165 ev165 pv165 qv165 => ?_)
            have zv165 := ev165.trans ((my_up_fld fh163 (by decide)).trans ev139.symm)
            refine w_icge (t := 87) gz_37_69 rfl (fun u166 => by exfalso; omega) (fun u166 => ?_)
            refine w_aload_n gz_37_72 rfl ?_
            refine w_getX (v := 92) gz_37_73 is_82 rd_5 rfl (by decide) rfl ?_
            refine w_aload_n gz_37_76 rfl ?_
            refine v_getI (j := 5) gz_37_77 rfl is_82 rd_5 rfl (fun v168 ev168 pv168 qv168 => ?_)
            have zv168 := ev168.trans ev164.symm
            have sg0 : ∀ j : Int, h163 92 j = h0_0 92 j := fun j => ((my_up_role fh163 is_92 is_82 rfl).trans (rfl : h0_0 92 j = h0_0 92 j))
            refine w_yald gz_37_80 is_92 rd_40 (by omega) (by omega) (fun v169 ev169 pv169 qv169 => ?_)
            have wv169 : v168 = v152 := by omega
            rw [wv169] at ev169
            have zv169 := ev169.trans ((my_up_role fh163 is_92 is_82 rfl).trans ev160.symm)
            have sgi : ∀ k : Int, k = v152 → h163 92 k = v169 := fun k q => by rw [q]; omega
            refine w_inS (k := 0) (as := [(0, v169)]) (r := [(2, 82)]) (ls0 := [(0, v169)]) gz_37_81 gm_38 rfl rfl rfl rfl rfl rfl ?_
            refine w_iload_n gz_38_0 rfl ?_
            refine w_bipush gz_38_1 (by decide) ?_
            refine w_iclt (t := 14) gz_38_3 rfl (fun u170 => ?_) (fun u170 => ?_)
            ·
              refine w_iload_n gz_38_14 rfl ?_
              refine w_bipush gz_38_15 (by decide) ?_
              refine w_iclt (t := 28) gz_38_17 rfl (fun u171 => ?_) (fun u171 => ?_)
              ·
                refine w_iload_n gz_38_28 rfl ?_
                refine w_bipush gz_38_29 (by decide) ?_
                refine w_icne (t := 38) gz_38_31 rfl (fun u172 => ?_) (fun u172 => by exfalso; omega)
                refine w_iconst gz_38_38 (by decide) ?_
                refine w_iret gz_38_39 gm_38 ?_
                show wp l rho (d + 1) 37 84 [(2, 82), (9, 0), (9, 0)] [(0, 4), (2, 82)] h163 Q
                refine w_goto (t := 88) gz_37_84 rfl ?_
                refine v_putI (j := 6) gz_37_88 rfl is_82 rd_5 rfl (by omega) (by omega) rfl (fun h173 fh173 => ?_)
                have gh173 : my_fr [(5, 5), (5, 6), (5, 7), (5, 8)] h h173 := my_fr.up gh163 is_82 fh173 rfl
                refine w_aload_n gz_37_91 rfl ?_
                refine v_getI (j := 6) gz_37_92 rfl is_82 rd_5 rfl (fun v174 ev174 pv174 qv174 => ?_)
                have zv174 := ev174.trans (my_up_self fh173)
                refine w_ifne (t := 99) gz_37_95 rfl (fun u175 => ?_) (fun u175 => by exfalso; omega)
                refine w_aload_n gz_37_99 rfl ?_
                refine w_iconst gz_37_100 (by decide) ?_
                refine v_putI (j := 8) gz_37_101 rfl is_82 rd_5 rfl (by omega) (by omega) rfl (fun h176 fh176 => ?_)
                have gh176 : my_fr [(5, 5), (5, 6), (5, 7), (5, 8)] h h176 := my_fr.up gh173 is_82 fh176 rfl
                refine w_aload_n gz_37_104 rfl ?_
                refine v_getI (j := 6) gz_37_105 rfl is_82 rd_5 rfl (fun v177 ev177 pv177 qv177 => ?_)
                have zv177 := ev177.trans ((my_up_fld fh176 (by decide)).trans ev174.symm)
                refine w_iconst gz_37_108 (by decide) ?_
                refine w_icne (t := 117) gz_37_109 rfl (fun u178 => ?_) (fun u178 => by exfalso; omega)
                refine w_aload_n gz_37_117 rfl ?_
                refine v_getI (j := 6) gz_37_118 rfl is_82 rd_5 rfl (fun v179 ev179 pv179 qv179 => ?_)
                have zv179 := ev179.trans ev177.symm
                refine w_iconst gz_37_121 (by decide) ?_
                refine w_icne (t := 129) gz_37_122 rfl (fun u180 => ?_) (fun u180 => by exfalso; omega)
                refine w_iconst gz_37_129 (by decide) ?_
                refine w_istore_n (ls' := [(2, 82), (0, 1), (9, 0)]) gz_37_130 gm_37 rfl rfl rfl ?_
                refine w_aload_n gz_37_131 rfl ?_
                refine v_getI (j := 7) gz_37_132 rfl is_82 rd_5 rfl (fun v181 ev181 pv181 qv181 => ?_)
                have zv181 := ev181.trans ((my_up_fld fh176 (by decide)).trans ((my_up_fld fh173 (by decide)).trans (my_up_self fh163)))
                refine w_iconst gz_37_135 (by decide) ?_
                refine w_iadd gz_37_136 ⟨by omega, by omega⟩ ?_
                refine w_istore_n (ls' := [(2, 82), (0, 1), (0, (v181 + 1))]) gz_37_137 gm_37 rfl rfl rfl ?_
                have ce182 : h176 82 5 = v168 := ((my_up_fld fh176 (by decide)).trans ((my_up_fld fh173 (by decide)).trans ev168.symm))
                have ce183 : h176 82 6 = v179 := ev179.symm
                have ce184 : h176 82 7 = v181 := ev181.symm
                have ce185 : h176 82 8 = 0 := (my_up_self fh176)
                have sg : ∀ j : Int, h176 92 j = h0_0 92 j := fun j => ((my_up_role fh176 is_92 is_82 rfl).trans ((my_up_role fh173 is_92 is_82 rfl).trans ((my_up_role fh163 is_92 is_82 rfl).trans (rfl : h0_0 92 j = h0_0 92 j))))
                exact J138_0 (1001) (1) ((v181 + 1)) (v168) (v179) h176 (gh176) (by omega) (by omega) (by omega) (by omega) (by omega) (by omega) (by omega) (by omega) (by omega) (by omega) (by omega) (by omega) (by omega) (by omega) (by omega) (by omega) (((my_up_fld fh176 (by decide)).trans ((my_up_fld fh173 (by decide)).trans ev165.symm)).trans (by omega)) (((my_up_fld fh176 (by decide)).trans ((my_up_fld fh173 (by decide)).trans ev168.symm)).trans (by omega)) (ev179.symm.trans (by omega)) (ev181.symm.trans (by omega)) ((my_up_self fh176).trans (by omega)) (((my_up_fld fh176 (by decide)).trans ((my_up_fld fh173 (by decide)).trans ((my_up_fld fh163 (by decide)).trans c82_9_0_0))).trans (by omega)) (by omega) (by first | (intro t k a b; rw [sg]; exact dg_181_0 (by omega) k (by omega) (by omega)) | (intro t k a b; rw [sg]; exact dg_138_0 (by omega) k (by omega) (by omega)) | (intro t k a b; rw [sg, ← sg0, sgi k (by omega)]; omega) | (intro t; omega) | (intro t k a b; rw [sg]; rcases (by omega : k = p138_1 ∨ k < p138_1) with q | q <;> first | exact dg_138_0 (by omega) k (by omega) (by omega) | (subst q; omega))) (by first | assumption | omega | (subst_vars; omega)) (by first | assumption | omega | (subst_vars; omega)) (by first | assumption | omega | (subst_vars; omega)) (by omega)
              ·
                refine w_iload_n gz_38_20 rfl ?_
                refine w_bipush gz_38_21 (by decide) ?_
                refine w_icgt (t := 28) gz_38_23 rfl (fun u186 => ?_) (fun u186 => ?_)
                ·
                  refine w_iload_n gz_38_28 rfl ?_
                  refine w_bipush gz_38_29 (by decide) ?_
                  refine w_icne (t := 38) gz_38_31 rfl (fun u187 => ?_) (fun u187 => ?_)
                  ·
                    refine w_iconst gz_38_38 (by decide) ?_
                    refine w_iret gz_38_39 gm_38 ?_
                    show wp l rho (d + 1) 37 84 [(2, 82), (9, 0), (9, 0)] [(0, 4), (2, 82)] h163 Q
                    refine w_goto (t := 88) gz_37_84 rfl ?_
                    refine v_putI (j := 6) gz_37_88 rfl is_82 rd_5 rfl (by omega) (by omega) rfl (fun h188 fh188 => ?_)
                    have gh188 : my_fr [(5, 5), (5, 6), (5, 7), (5, 8)] h h188 := my_fr.up gh163 is_82 fh188 rfl
                    refine w_aload_n gz_37_91 rfl ?_
                    refine v_getI (j := 6) gz_37_92 rfl is_82 rd_5 rfl (fun v189 ev189 pv189 qv189 => ?_)
                    have zv189 := ev189.trans (my_up_self fh188)
                    refine w_ifne (t := 99) gz_37_95 rfl (fun u190 => ?_) (fun u190 => by exfalso; omega)
                    refine w_aload_n gz_37_99 rfl ?_
                    refine w_iconst gz_37_100 (by decide) ?_
                    refine v_putI (j := 8) gz_37_101 rfl is_82 rd_5 rfl (by omega) (by omega) rfl (fun h191 fh191 => ?_)
                    have gh191 : my_fr [(5, 5), (5, 6), (5, 7), (5, 8)] h h191 := my_fr.up gh188 is_82 fh191 rfl
                    refine w_aload_n gz_37_104 rfl ?_
                    refine v_getI (j := 6) gz_37_105 rfl is_82 rd_5 rfl (fun v192 ev192 pv192 qv192 => ?_)
                    have zv192 := ev192.trans ((my_up_fld fh191 (by decide)).trans ev189.symm)
                    refine w_iconst gz_37_108 (by decide) ?_
                    refine w_icne (t := 117) gz_37_109 rfl (fun u193 => ?_) (fun u193 => by exfalso; omega)
                    refine w_aload_n gz_37_117 rfl ?_
                    refine v_getI (j := 6) gz_37_118 rfl is_82 rd_5 rfl (fun v194 ev194 pv194 qv194 => ?_)
                    have zv194 := ev194.trans ev192.symm
                    refine w_iconst gz_37_121 (by decide) ?_
                    refine w_icne (t := 129) gz_37_122 rfl (fun u195 => ?_) (fun u195 => by exfalso; omega)
                    refine w_iconst gz_37_129 (by decide) ?_
                    refine w_istore_n (ls' := [(2, 82), (0, 1), (9, 0)]) gz_37_130 gm_37 rfl rfl rfl ?_
                    refine w_aload_n gz_37_131 rfl ?_
                    refine v_getI (j := 7) gz_37_132 rfl is_82 rd_5 rfl (fun v196 ev196 pv196 qv196 => ?_)
                    have zv196 := ev196.trans ((my_up_fld fh191 (by decide)).trans ((my_up_fld fh188 (by decide)).trans (my_up_self fh163)))
                    refine w_iconst gz_37_135 (by decide) ?_
                    refine w_iadd gz_37_136 ⟨by omega, by omega⟩ ?_
                    refine w_istore_n (ls' := [(2, 82), (0, 1), (0, (v196 + 1))]) gz_37_137 gm_37 rfl rfl rfl ?_
                    have ce197 : h191 82 5 = v168 := ((my_up_fld fh191 (by decide)).trans ((my_up_fld fh188 (by decide)).trans ev168.symm))
                    have ce198 : h191 82 6 = v194 := ev194.symm
                    have ce199 : h191 82 7 = v196 := ev196.symm
                    have ce200 : h191 82 8 = 0 := (my_up_self fh191)
                    have sg : ∀ j : Int, h191 92 j = h0_0 92 j := fun j => ((my_up_role fh191 is_92 is_82 rfl).trans ((my_up_role fh188 is_92 is_82 rfl).trans ((my_up_role fh163 is_92 is_82 rfl).trans (rfl : h0_0 92 j = h0_0 92 j))))
                    exact J138_0 (1001) (1) ((v196 + 1)) (v168) (v194) h191 (gh191) (by omega) (by omega) (by omega) (by omega) (by omega) (by omega) (by omega) (by omega) (by omega) (by omega) (by omega) (by omega) (by omega) (by omega) (by omega) (by omega) (((my_up_fld fh191 (by decide)).trans ((my_up_fld fh188 (by decide)).trans ev165.symm)).trans (by omega)) (((my_up_fld fh191 (by decide)).trans ((my_up_fld fh188 (by decide)).trans ev168.symm)).trans (by omega)) (ev194.symm.trans (by omega)) (ev196.symm.trans (by omega)) ((my_up_self fh191).trans (by omega)) (((my_up_fld fh191 (by decide)).trans ((my_up_fld fh188 (by decide)).trans ((my_up_fld fh163 (by decide)).trans c82_9_0_0))).trans (by omega)) (by omega) (by first | (intro t k a b; rw [sg]; exact dg_181_0 (by omega) k (by omega) (by omega)) | (intro t k a b; rw [sg]; exact dg_138_0 (by omega) k (by omega) (by omega)) | (intro t k a b; rw [sg, ← sg0, sgi k (by omega)]; omega) | (intro t; omega) | (intro t k a b; rw [sg]; rcases (by omega : k = p138_1 ∨ k < p138_1) with q | q <;> first | exact dg_138_0 (by omega) k (by omega) (by omega) | (subst q; omega))) (by first | assumption | omega | (subst_vars; omega)) (by first | assumption | omega | (subst_vars; omega)) (by first | assumption | omega | (subst_vars; omega)) (by omega)
                  ·
                    refine w_iconst gz_38_34 (by decide) ?_
                    refine w_goto (t := 39) gz_38_35 rfl ?_
                    refine w_iret gz_38_39 gm_38 ?_
                    show wp l rho (d + 1) 37 84 [(2, 82), (9, 0), (9, 0)] [(0, 3), (2, 82)] h163 Q
                    refine w_goto (t := 88) gz_37_84 rfl ?_
                    refine v_putI (j := 6) gz_37_88 rfl is_82 rd_5 rfl (by omega) (by omega) rfl (fun h201 fh201 => ?_)
                    have gh201 : my_fr [(5, 5), (5, 6), (5, 7), (5, 8)] h h201 := my_fr.up gh163 is_82 fh201 rfl
                    refine w_aload_n gz_37_91 rfl ?_
                    refine v_getI (j := 6) gz_37_92 rfl is_82 rd_5 rfl (fun v202 ev202 pv202 qv202 => ?_)
                    have zv202 := ev202.trans (my_up_self fh201)
                    refine w_ifne (t := 99) gz_37_95 rfl (fun u203 => ?_) (fun u203 => by exfalso; omega)
                    refine w_aload_n gz_37_99 rfl ?_
                    refine w_iconst gz_37_100 (by decide) ?_
                    refine v_putI (j := 8) gz_37_101 rfl is_82 rd_5 rfl (by omega) (by omega) rfl (fun h204 fh204 => ?_)
                    have gh204 : my_fr [(5, 5), (5, 6), (5, 7), (5, 8)] h h204 := my_fr.up gh201 is_82 fh204 rfl
                    refine w_aload_n gz_37_104 rfl ?_
                    refine v_getI (j := 6) gz_37_105 rfl is_82 rd_5 rfl (fun v205 ev205 pv205 qv205 => ?_)
                    have zv205 := ev205.trans ((my_up_fld fh204 (by decide)).trans ev202.symm)
                    refine w_iconst gz_37_108 (by decide) ?_
                    refine w_icne (t := 117) gz_37_109 rfl (fun u206 => ?_) (fun u206 => by exfalso; omega)
                    refine w_aload_n gz_37_117 rfl ?_
                    refine v_getI (j := 6) gz_37_118 rfl is_82 rd_5 rfl (fun v207 ev207 pv207 qv207 => ?_)
                    have zv207 := ev207.trans ev205.symm
                    refine w_iconst gz_37_121 (by decide) ?_
                    refine w_icne (t := 129) gz_37_122 rfl (fun u208 => ?_) (fun u208 => by exfalso; omega)
                    refine w_iconst gz_37_129 (by decide) ?_
                    refine w_istore_n (ls' := [(2, 82), (0, 1), (9, 0)]) gz_37_130 gm_37 rfl rfl rfl ?_
                    refine w_aload_n gz_37_131 rfl ?_
                    refine v_getI (j := 7) gz_37_132 rfl is_82 rd_5 rfl (fun v209 ev209 pv209 qv209 => ?_)
                    have zv209 := ev209.trans ((my_up_fld fh204 (by decide)).trans ((my_up_fld fh201 (by decide)).trans (my_up_self fh163)))
                    refine w_iconst gz_37_135 (by decide) ?_
                    refine w_iadd gz_37_136 ⟨by omega, by omega⟩ ?_
                    refine w_istore_n (ls' := [(2, 82), (0, 1), (0, (v209 + 1))]) gz_37_137 gm_37 rfl rfl rfl ?_
                    have ce210 : h204 82 5 = v168 := ((my_up_fld fh204 (by decide)).trans ((my_up_fld fh201 (by decide)).trans ev168.symm))
                    have ce211 : h204 82 6 = v207 := ev207.symm
                    have ce212 : h204 82 7 = v209 := ev209.symm
                    have ce213 : h204 82 8 = 0 := (my_up_self fh204)
                    have sg : ∀ j : Int, h204 92 j = h0_0 92 j := fun j => ((my_up_role fh204 is_92 is_82 rfl).trans ((my_up_role fh201 is_92 is_82 rfl).trans ((my_up_role fh163 is_92 is_82 rfl).trans (rfl : h0_0 92 j = h0_0 92 j))))
                    exact J138_0 (1001) (1) ((v209 + 1)) (v168) (v207) h204 (gh204) (by omega) (by omega) (by omega) (by omega) (by omega) (by omega) (by omega) (by omega) (by omega) (by omega) (by omega) (by omega) (by omega) (by omega) (by omega) (by omega) (((my_up_fld fh204 (by decide)).trans ((my_up_fld fh201 (by decide)).trans ev165.symm)).trans (by omega)) (((my_up_fld fh204 (by decide)).trans ((my_up_fld fh201 (by decide)).trans ev168.symm)).trans (by omega)) (ev207.symm.trans (by omega)) (ev209.symm.trans (by omega)) ((my_up_self fh204).trans (by omega)) (((my_up_fld fh204 (by decide)).trans ((my_up_fld fh201 (by decide)).trans ((my_up_fld fh163 (by decide)).trans c82_9_0_0))).trans (by omega)) (by omega) (by first | (intro t k a b; rw [sg]; exact dg_181_0 (by omega) k (by omega) (by omega)) | (intro t k a b; rw [sg]; exact dg_138_0 (by omega) k (by omega) (by omega)) | (intro t k a b; rw [sg, ← sg0, sgi k (by omega)]; omega) | (intro t; omega) | (intro t k a b; rw [sg]; rcases (by omega : k = p138_1 ∨ k < p138_1) with q | q <;> first | exact dg_138_0 (by omega) k (by omega) (by omega) | (subst q; omega))) (by first | assumption | omega | (subst_vars; omega)) (by first | assumption | omega | (subst_vars; omega)) (by first | assumption | omega | (subst_vars; omega)) (by omega)
                ·
                  refine w_iconst gz_38_26 (by decide) ?_
                  refine w_iret gz_38_27 gm_38 ?_
                  show wp l rho (d + 1) 37 84 [(2, 82), (9, 0), (9, 0)] [(0, 2), (2, 82)] h163 Q
                  refine w_goto (t := 88) gz_37_84 rfl ?_
                  refine v_putI (j := 6) gz_37_88 rfl is_82 rd_5 rfl (by omega) (by omega) rfl (fun h214 fh214 => ?_)
                  have gh214 : my_fr [(5, 5), (5, 6), (5, 7), (5, 8)] h h214 := my_fr.up gh163 is_82 fh214 rfl
                  refine w_aload_n gz_37_91 rfl ?_
                  refine v_getI (j := 6) gz_37_92 rfl is_82 rd_5 rfl (fun v215 ev215 pv215 qv215 => ?_)
                  have zv215 := ev215.trans (my_up_self fh214)
                  refine w_ifne (t := 99) gz_37_95 rfl (fun u216 => ?_) (fun u216 => by exfalso; omega)
                  refine w_aload_n gz_37_99 rfl ?_
                  refine w_iconst gz_37_100 (by decide) ?_
                  refine v_putI (j := 8) gz_37_101 rfl is_82 rd_5 rfl (by omega) (by omega) rfl (fun h217 fh217 => ?_)
                  have gh217 : my_fr [(5, 5), (5, 6), (5, 7), (5, 8)] h h217 := my_fr.up gh214 is_82 fh217 rfl
                  refine w_aload_n gz_37_104 rfl ?_
                  refine v_getI (j := 6) gz_37_105 rfl is_82 rd_5 rfl (fun v218 ev218 pv218 qv218 => ?_)
                  have zv218 := ev218.trans ((my_up_fld fh217 (by decide)).trans ev215.symm)
                  refine w_iconst gz_37_108 (by decide) ?_
                  refine w_icne (t := 117) gz_37_109 rfl (fun u219 => ?_) (fun u219 => by exfalso; omega)
                  refine w_aload_n gz_37_117 rfl ?_
                  refine v_getI (j := 6) gz_37_118 rfl is_82 rd_5 rfl (fun v220 ev220 pv220 qv220 => ?_)
                  have zv220 := ev220.trans ev218.symm
                  refine w_iconst gz_37_121 (by decide) ?_
                  refine w_icne (t := 129) gz_37_122 rfl (fun u221 => by exfalso; omega) (fun u221 => ?_)
                  refine w_iconst gz_37_125 (by decide) ?_
                  refine w_goto (t := 130) gz_37_126 rfl ?_
                  refine w_istore_n (ls' := [(2, 82), (0, 3), (9, 0)]) gz_37_130 gm_37 rfl rfl rfl ?_
                  refine w_aload_n gz_37_131 rfl ?_
                  refine v_getI (j := 7) gz_37_132 rfl is_82 rd_5 rfl (fun v222 ev222 pv222 qv222 => ?_)
                  have zv222 := ev222.trans ((my_up_fld fh217 (by decide)).trans ((my_up_fld fh214 (by decide)).trans (my_up_self fh163)))
                  refine w_iconst gz_37_135 (by decide) ?_
                  refine w_iadd gz_37_136 ⟨by omega, by omega⟩ ?_
                  refine w_istore_n (ls' := [(2, 82), (0, 3), (0, (v222 + 1))]) gz_37_137 gm_37 rfl rfl rfl ?_
                  have ce223 : h217 82 5 = v168 := ((my_up_fld fh217 (by decide)).trans ((my_up_fld fh214 (by decide)).trans ev168.symm))
                  have ce224 : h217 82 6 = v220 := ev220.symm
                  have ce225 : h217 82 7 = v222 := ev222.symm
                  have ce226 : h217 82 8 = 0 := (my_up_self fh217)
                  have sg : ∀ j : Int, h217 92 j = h0_0 92 j := fun j => ((my_up_role fh217 is_92 is_82 rfl).trans ((my_up_role fh214 is_92 is_82 rfl).trans ((my_up_role fh163 is_92 is_82 rfl).trans (rfl : h0_0 92 j = h0_0 92 j))))
                  exact J138_0 (1001) (3) ((v222 + 1)) (v168) (v220) h217 (gh217) (by omega) (by omega) (by omega) (by omega) (by omega) (by omega) (by omega) (by omega) (by omega) (by omega) (by omega) (by omega) (by omega) (by omega) (by omega) (by omega) (((my_up_fld fh217 (by decide)).trans ((my_up_fld fh214 (by decide)).trans ev165.symm)).trans (by omega)) (((my_up_fld fh217 (by decide)).trans ((my_up_fld fh214 (by decide)).trans ev168.symm)).trans (by omega)) (ev220.symm.trans (by omega)) (ev222.symm.trans (by omega)) ((my_up_self fh217).trans (by omega)) (((my_up_fld fh217 (by decide)).trans ((my_up_fld fh214 (by decide)).trans ((my_up_fld fh163 (by decide)).trans c82_9_0_0))).trans (by omega)) (by omega) (by first | (intro t k a b; rw [sg]; exact dg_181_0 (by omega) k (by omega) (by omega)) | (intro t k a b; rw [sg]; exact dg_138_0 (by omega) k (by omega) (by omega)) | (intro t k a b; rw [sg, ← sg0, sgi k (by omega)]; omega) | (intro t; omega) | (intro t k a b; rw [sg]; rcases (by omega : k = p138_1 ∨ k < p138_1) with q | q <;> first | exact dg_138_0 (by omega) k (by omega) (by omega) | (subst q; omega))) (by first | assumption | omega | (subst_vars; omega)) (by first | assumption | omega | (subst_vars; omega)) (by first | assumption | omega | (subst_vars; omega)) (by omega)
            ·
              refine w_iload_n gz_38_6 rfl ?_
              refine w_bipush gz_38_7 (by decide) ?_
              refine w_icgt (t := 14) gz_38_9 rfl (fun u227 => ?_) (fun u227 => ?_)
              ·
                refine w_iload_n gz_38_14 rfl ?_
                refine w_bipush gz_38_15 (by decide) ?_
                refine w_iclt (t := 28) gz_38_17 rfl (fun u228 => by exfalso; omega) (fun u228 => ?_)
                refine w_iload_n gz_38_20 rfl ?_
                refine w_bipush gz_38_21 (by decide) ?_
                refine w_icgt (t := 28) gz_38_23 rfl (fun u229 => ?_) (fun u229 => by exfalso; omega)
                refine w_iload_n gz_38_28 rfl ?_
                refine w_bipush gz_38_29 (by decide) ?_
                refine w_icne (t := 38) gz_38_31 rfl (fun u230 => ?_) (fun u230 => by exfalso; omega)
                refine w_iconst gz_38_38 (by decide) ?_
                refine w_iret gz_38_39 gm_38 ?_
                show wp l rho (d + 1) 37 84 [(2, 82), (9, 0), (9, 0)] [(0, 4), (2, 82)] h163 Q
                refine w_goto (t := 88) gz_37_84 rfl ?_
                refine v_putI (j := 6) gz_37_88 rfl is_82 rd_5 rfl (by omega) (by omega) rfl (fun h231 fh231 => ?_)
                have gh231 : my_fr [(5, 5), (5, 6), (5, 7), (5, 8)] h h231 := my_fr.up gh163 is_82 fh231 rfl
                refine w_aload_n gz_37_91 rfl ?_
                refine v_getI (j := 6) gz_37_92 rfl is_82 rd_5 rfl (fun v232 ev232 pv232 qv232 => ?_)
                have zv232 := ev232.trans (my_up_self fh231)
                refine w_ifne (t := 99) gz_37_95 rfl (fun u233 => ?_) (fun u233 => by exfalso; omega)
                refine w_aload_n gz_37_99 rfl ?_
                refine w_iconst gz_37_100 (by decide) ?_
                refine v_putI (j := 8) gz_37_101 rfl is_82 rd_5 rfl (by omega) (by omega) rfl (fun h234 fh234 => ?_)
                have gh234 : my_fr [(5, 5), (5, 6), (5, 7), (5, 8)] h h234 := my_fr.up gh231 is_82 fh234 rfl
                refine w_aload_n gz_37_104 rfl ?_
                refine v_getI (j := 6) gz_37_105 rfl is_82 rd_5 rfl (fun v235 ev235 pv235 qv235 => ?_)
                have zv235 := ev235.trans ((my_up_fld fh234 (by decide)).trans ev232.symm)
                refine w_iconst gz_37_108 (by decide) ?_
                refine w_icne (t := 117) gz_37_109 rfl (fun u236 => ?_) (fun u236 => by exfalso; omega)
                refine w_aload_n gz_37_117 rfl ?_
                refine v_getI (j := 6) gz_37_118 rfl is_82 rd_5 rfl (fun v237 ev237 pv237 qv237 => ?_)
                have zv237 := ev237.trans ev235.symm
                refine w_iconst gz_37_121 (by decide) ?_
                refine w_icne (t := 129) gz_37_122 rfl (fun u238 => ?_) (fun u238 => by exfalso; omega)
                refine w_iconst gz_37_129 (by decide) ?_
                refine w_istore_n (ls' := [(2, 82), (0, 1), (9, 0)]) gz_37_130 gm_37 rfl rfl rfl ?_
                refine w_aload_n gz_37_131 rfl ?_
                refine v_getI (j := 7) gz_37_132 rfl is_82 rd_5 rfl (fun v239 ev239 pv239 qv239 => ?_)
                have zv239 := ev239.trans ((my_up_fld fh234 (by decide)).trans ((my_up_fld fh231 (by decide)).trans (my_up_self fh163)))
                refine w_iconst gz_37_135 (by decide) ?_
                refine w_iadd gz_37_136 ⟨by omega, by omega⟩ ?_
                refine w_istore_n (ls' := [(2, 82), (0, 1), (0, (v239 + 1))]) gz_37_137 gm_37 rfl rfl rfl ?_
                have ce240 : h234 82 5 = v168 := ((my_up_fld fh234 (by decide)).trans ((my_up_fld fh231 (by decide)).trans ev168.symm))
                have ce241 : h234 82 6 = v237 := ev237.symm
                have ce242 : h234 82 7 = v239 := ev239.symm
                have ce243 : h234 82 8 = 0 := (my_up_self fh234)
                have sg : ∀ j : Int, h234 92 j = h0_0 92 j := fun j => ((my_up_role fh234 is_92 is_82 rfl).trans ((my_up_role fh231 is_92 is_82 rfl).trans ((my_up_role fh163 is_92 is_82 rfl).trans (rfl : h0_0 92 j = h0_0 92 j))))
                exact J138_0 (1001) (1) ((v239 + 1)) (v168) (v237) h234 (gh234) (by omega) (by omega) (by omega) (by omega) (by omega) (by omega) (by omega) (by omega) (by omega) (by omega) (by omega) (by omega) (by omega) (by omega) (by omega) (by omega) (((my_up_fld fh234 (by decide)).trans ((my_up_fld fh231 (by decide)).trans ev165.symm)).trans (by omega)) (((my_up_fld fh234 (by decide)).trans ((my_up_fld fh231 (by decide)).trans ev168.symm)).trans (by omega)) (ev237.symm.trans (by omega)) (ev239.symm.trans (by omega)) ((my_up_self fh234).trans (by omega)) (((my_up_fld fh234 (by decide)).trans ((my_up_fld fh231 (by decide)).trans ((my_up_fld fh163 (by decide)).trans c82_9_0_0))).trans (by omega)) (by omega) (by first | (intro t k a b; rw [sg]; exact dg_181_0 (by omega) k (by omega) (by omega)) | (intro t k a b; rw [sg]; exact dg_138_0 (by omega) k (by omega) (by omega)) | (intro t k a b; rw [sg, ← sg0, sgi k (by omega)]; omega) | (intro t; omega) | (intro t k a b; rw [sg]; rcases (by omega : k = p138_1 ∨ k < p138_1) with q | q <;> first | exact dg_138_0 (by omega) k (by omega) (by omega) | (subst q; omega))) (by first | assumption | omega | (subst_vars; omega)) (by first | assumption | omega | (subst_vars; omega)) (by first | assumption | omega | (subst_vars; omega)) (by omega)
              ·
                refine w_iconst gz_38_12 (by decide) ?_
                refine w_iret gz_38_13 gm_38 ?_
                show wp l rho (d + 1) 37 84 [(2, 82), (9, 0), (9, 0)] [(0, 1), (2, 82)] h163 Q
                refine w_goto (t := 88) gz_37_84 rfl ?_
                refine v_putI (j := 6) gz_37_88 rfl is_82 rd_5 rfl (by omega) (by omega) rfl (fun h244 fh244 => ?_)
                have gh244 : my_fr [(5, 5), (5, 6), (5, 7), (5, 8)] h h244 := my_fr.up gh163 is_82 fh244 rfl
                refine w_aload_n gz_37_91 rfl ?_
                refine v_getI (j := 6) gz_37_92 rfl is_82 rd_5 rfl (fun v245 ev245 pv245 qv245 => ?_)
                have zv245 := ev245.trans (my_up_self fh244)
                refine w_ifne (t := 99) gz_37_95 rfl (fun u246 => ?_) (fun u246 => by exfalso; omega)
                refine w_aload_n gz_37_99 rfl ?_
                refine w_iconst gz_37_100 (by decide) ?_
                refine v_putI (j := 8) gz_37_101 rfl is_82 rd_5 rfl (by omega) (by omega) rfl (fun h247 fh247 => ?_)
                have gh247 : my_fr [(5, 5), (5, 6), (5, 7), (5, 8)] h h247 := my_fr.up gh244 is_82 fh247 rfl
                refine w_aload_n gz_37_104 rfl ?_
                refine v_getI (j := 6) gz_37_105 rfl is_82 rd_5 rfl (fun v248 ev248 pv248 qv248 => ?_)
                have zv248 := ev248.trans ((my_up_fld fh247 (by decide)).trans ev245.symm)
                refine w_iconst gz_37_108 (by decide) ?_
                refine w_icne (t := 117) gz_37_109 rfl (fun u249 => by exfalso; omega) (fun u249 => ?_)
                refine w_bipush gz_37_112 (by decide) ?_
                refine w_goto (t := 130) gz_37_114 rfl ?_
                refine w_istore_n (ls' := [(2, 82), (0, 8), (9, 0)]) gz_37_130 gm_37 rfl rfl rfl ?_
                refine w_aload_n gz_37_131 rfl ?_
                refine v_getI (j := 7) gz_37_132 rfl is_82 rd_5 rfl (fun v250 ev250 pv250 qv250 => ?_)
                have zv250 := ev250.trans ((my_up_fld fh247 (by decide)).trans ((my_up_fld fh244 (by decide)).trans (my_up_self fh163)))
                refine w_iconst gz_37_135 (by decide) ?_
                refine w_iadd gz_37_136 ⟨by omega, by omega⟩ ?_
                refine w_istore_n (ls' := [(2, 82), (0, 8), (0, (v250 + 1))]) gz_37_137 gm_37 rfl rfl rfl ?_
                have ce251 : h247 82 5 = v168 := ((my_up_fld fh247 (by decide)).trans ((my_up_fld fh244 (by decide)).trans ev168.symm))
                have ce252 : h247 82 6 = v248 := ev248.symm
                have ce253 : h247 82 7 = v250 := ev250.symm
                have ce254 : h247 82 8 = 0 := (my_up_self fh247)
                have sg : ∀ j : Int, h247 92 j = h0_0 92 j := fun j => ((my_up_role fh247 is_92 is_82 rfl).trans ((my_up_role fh244 is_92 is_82 rfl).trans ((my_up_role fh163 is_92 is_82 rfl).trans (rfl : h0_0 92 j = h0_0 92 j))))
                exact J138_0 (1001) (8) ((v250 + 1)) (v168) (v248) h247 (gh247) (by omega) (by omega) (by omega) (by omega) (by omega) (by omega) (by omega) (by omega) (by omega) (by omega) (by omega) (by omega) (by omega) (by omega) (by omega) (by omega) (((my_up_fld fh247 (by decide)).trans ((my_up_fld fh244 (by decide)).trans ev165.symm)).trans (by omega)) (((my_up_fld fh247 (by decide)).trans ((my_up_fld fh244 (by decide)).trans ev168.symm)).trans (by omega)) (ev248.symm.trans (by omega)) (ev250.symm.trans (by omega)) ((my_up_self fh247).trans (by omega)) (((my_up_fld fh247 (by decide)).trans ((my_up_fld fh244 (by decide)).trans ((my_up_fld fh163 (by decide)).trans c82_9_0_0))).trans (by omega)) (by omega) (by first | (intro t k a b; rw [sg]; exact dg_181_0 (by omega) k (by omega) (by omega)) | (intro t k a b; rw [sg]; exact dg_138_0 (by omega) k (by omega) (by omega)) | (intro t k a b; rw [sg, ← sg0, sgi k (by omega)]; omega) | (intro t; omega) | (intro t k a b; rw [sg]; rcases (by omega : k = p138_1 ∨ k < p138_1) with q | q <;> first | exact dg_138_0 (by omega) k (by omega) (by omega) | (subst q; omega))) (by first | assumption | omega | (subst_vars; omega)) (by first | assumption | omega | (subst_vars; omega)) (by first | assumption | omega | (subst_vars; omega)) (by omega)
          ·
            refine w_aload_n gz_37_39 rfl ?_
            refine w_dup gz_37_40 rfl ?_
            refine v_getI (j := 5) gz_37_41 rfl is_82 rd_5 rfl (fun v255 ev255 pv255 qv255 => ?_)
            have zv255 := ev255.trans ev159.symm
            refine w_iconst gz_37_44 (by decide) ?_
            refine w_iadd gz_37_45 ⟨by omega, by omega⟩ ?_
            refine v_putI (j := 5) gz_37_46 rfl is_82 rd_5 rfl (by omega) (by omega) rfl (fun h256 fh256 => ?_)
            have gh256 : my_fr [(5, 5), (5, 6), (5, 7), (5, 8)] h h256 := my_fr.up gh_0_0 is_82 fh256 rfl
            refine w_goto (t := 0) gz_37_49 rfl ?_
            have ce257 : h256 82 5 = (v255 + 1) := (my_up_self fh256)
            exact ih_0_0 ((v255 + 1)) h256 (gh256) (by omega) (by omega) (by omega) (by omega) (by omega) (by omega) (by omega) (((my_up_fld fh256 (by decide)).trans ev139.symm).trans (by omega)) ((my_up_self fh256).trans (by omega)) (((my_up_fld fh256 (by decide)).trans c82_9_0_0).trans (by omega)) (by omega)
  refine w_aload_n gz_37_0 rfl ?_
  refine v_getI (j := 5) gz_37_1 rfl is_82 rd_5 rfl (fun v258 ev258 pv258 qv258 => ?_)
  have zv258 := ev258.trans ek82_5.symm
  refine w_aload_n gz_37_4 rfl ?_
  refine v_getI (j := 4) gz_37_5 rfl is_82 rd_5 rfl (fun v259 ev259 pv259 qv259 => ?_)
  have zv259 := ev259.trans ek82_4.symm
  refine w_icge (t := 52) gz_37_8 rfl (fun u260 => ?_) (fun u260 => ?_)
  ·
    refine w_aload_n gz_37_52 rfl ?_
    refine w_aload_n gz_37_53 rfl ?_
    refine v_getI (j := 5) gz_37_54 rfl is_82 rd_5 rfl (fun v261 ev261 pv261 qv261 => ?_)
    have zv261 := ev261.trans ev258.symm
    refine v_putI (j := 7) gz_37_57 rfl is_82 rd_5 rfl (by omega) (by omega) rfl (fun h262 fh262 => ?_)
    have gh262 : my_fr [(5, 5), (5, 6), (5, 7), (5, 8)] h h262 := my_fr.up my_fr.rf is_82 fh262 rfl
    refine w_aload_n gz_37_60 rfl ?_
    refine w_aload_n gz_37_61 rfl ?_
    refine v_getI (j := 5) gz_37_62 rfl is_82 rd_5 rfl (fun v263 ev263 pv263 qv263 => ?_)
    have zv263 := ev263.trans ((my_up_fld fh262 (by decide)).trans ev261.symm)
    refine w_aload_n gz_37_65 rfl ?_
    refine v_getI (j := 4) gz_37_66 rfl is_82 rd_5 rfl (fun v264 ev264 pv264 qv264 => ?_)
    have zv264 := ev264.trans ((my_up_fld fh262 (by decide)).trans ev259.symm)
    refine w_icge (t := 87) gz_37_69 rfl (fun u265 => ?_) (fun u265 => by exfalso; omega)
    refine w_iconst gz_37_87 (by decide) ?_
    refine v_putI (j := 6) gz_37_88 rfl is_82 rd_5 rfl (by omega) (by omega) rfl (fun h266 fh266 => ?_)
    have gh266 : my_fr [(5, 5), (5, 6), (5, 7), (5, 8)] h h266 := my_fr.up gh262 is_82 fh266 rfl
    refine w_aload_n gz_37_91 rfl ?_
    refine v_getI (j := 6) gz_37_92 rfl is_82 rd_5 rfl (fun v267 ev267 pv267 qv267 => ?_)
    have zv267 := ev267.trans (my_up_self fh266)
    refine w_ifne (t := 99) gz_37_95 rfl (fun u268 => by exfalso; omega) (fun u268 => ?_)
    have c269 := ev267.symm
    have c270 := ((my_up_fld fh266 (by decide)).trans ((my_up_fld fh262 (by decide)).trans cf))
    exact w_vret gz_37_98 gm_37 (k0 h266 (gh266) (by omega) (by omega) (by omega))
  ·
    refine w_aload_n gz_37_11 rfl ?_
    refine w_getX (v := 92) gz_37_12 is_82 rd_5 rfl (by decide) rfl ?_
    refine w_aload_n gz_37_15 rfl ?_
    refine v_getI (j := 5) gz_37_16 rfl is_82 rd_5 rfl (fun v272 ev272 pv272 qv272 => ?_)
    have zv272 := ev272.trans ev258.symm
    refine w_yald gz_37_19 is_92 rd_40 (by omega) (by omega) (fun v273 ev273 pv273 qv273 => ?_)
    refine w_bipush gz_37_20 (by decide) ?_
    refine w_iceq (t := 39) gz_37_22 rfl (fun u274 => ?_) (fun u274 => ?_)
    ·
      refine w_aload_n gz_37_39 rfl ?_
      refine w_dup gz_37_40 rfl ?_
      refine v_getI (j := 5) gz_37_41 rfl is_82 rd_5 rfl (fun v275 ev275 pv275 qv275 => ?_)
      have zv275 := ev275.trans ev272.symm
      refine w_iconst gz_37_44 (by decide) ?_
      refine w_iadd gz_37_45 ⟨by omega, by omega⟩ ?_
      refine v_putI (j := 5) gz_37_46 rfl is_82 rd_5 rfl (by omega) (by omega) rfl (fun h276 fh276 => ?_)
      have gh276 : my_fr [(5, 5), (5, 6), (5, 7), (5, 8)] h h276 := my_fr.up my_fr.rf is_82 fh276 rfl
      refine w_goto (t := 0) gz_37_49 rfl ?_
      have ce277 : h276 82 5 = (v275 + 1) := (my_up_self fh276)
      exact J0_0 (1001) ((v275 + 1)) h276 (gh276) (by omega) (by omega) (by omega) (by omega) (by omega) (by omega) (by omega) (((my_up_fld fh276 (by decide)).trans ev259.symm).trans (by omega)) ((my_up_self fh276).trans (by omega)) (((my_up_fld fh276 (by decide)).trans cf).trans (by omega)) (by omega)
    ·
      refine w_aload_n gz_37_25 rfl ?_
      refine w_getX (v := 92) gz_37_26 is_82 rd_5 rfl (by decide) rfl ?_
      refine w_aload_n gz_37_29 rfl ?_
      refine v_getI (j := 5) gz_37_30 rfl is_82 rd_5 rfl (fun v279 ev279 pv279 qv279 => ?_)
      have zv279 := ev279.trans ev272.symm
      refine w_yald gz_37_33 is_92 rd_40 (by omega) (by omega) (fun v280 ev280 pv280 qv280 => ?_)
      have wv280 : v279 = v272 := by omega
      rw [wv280] at ev280
      have zv280 := ev280.trans ev273.symm
      refine w_bipush gz_37_34 (by decide) ?_
      refine w_icne (t := 52) gz_37_36 rfl (fun u281 => ?_) (fun u281 => ?_)
      ·
        refine w_aload_n gz_37_52 rfl ?_
        refine w_aload_n gz_37_53 rfl ?_
        refine v_getI (j := 5) gz_37_54 rfl is_82 rd_5 rfl (fun v282 ev282 pv282 qv282 => ?_)
        have zv282 := ev282.trans ev279.symm
        refine v_putI (j := 7) gz_37_57 rfl is_82 rd_5 rfl (by omega) (by omega) rfl (fun h283 fh283 => ?_)
        have gh283 : my_fr [(5, 5), (5, 6), (5, 7), (5, 8)] h h283 := my_fr.up my_fr.rf is_82 fh283 rfl
        refine w_aload_n gz_37_60 rfl ?_
        refine w_aload_n gz_37_61 rfl ?_
        refine v_getI (j := 5) gz_37_62 rfl is_82 rd_5 rfl (fun v284 ev284 pv284 qv284 => ?_)
        have zv284 := ev284.trans ((my_up_fld fh283 (by decide)).trans ev282.symm)
        refine w_aload_n gz_37_65 rfl ?_
        refine v_getI (j := 4) gz_37_66 rfl is_82 rd_5 rfl (fun v285 ev285 pv285 qv285 => ?_)
        have zv285 := ev285.trans ((my_up_fld fh283 (by decide)).trans ev259.symm)
        refine w_icge (t := 87) gz_37_69 rfl (fun u286 => by exfalso; omega) (fun u286 => ?_)
        refine w_aload_n gz_37_72 rfl ?_
        refine w_getX (v := 92) gz_37_73 is_82 rd_5 rfl (by decide) rfl ?_
        refine w_aload_n gz_37_76 rfl ?_
        refine v_getI (j := 5) gz_37_77 rfl is_82 rd_5 rfl (fun v288 ev288 pv288 qv288 => ?_)
        have zv288 := ev288.trans ev284.symm
        have sg0 : ∀ j : Int, h283 92 j = h 92 j := fun j => ((my_up_role fh283 is_92 is_82 rfl).trans (rfl : h 92 j = h 92 j))
        refine w_yald gz_37_80 is_92 rd_40 (by omega) (by omega) (fun v289 ev289 pv289 qv289 => ?_)
        have wv289 : v288 = v272 := by omega
        rw [wv289] at ev289
        have zv289 := ev289.trans ((my_up_role fh283 is_92 is_82 rfl).trans ev280.symm)
        have sgi : ∀ k : Int, k = v272 → h283 92 k = v289 := fun k q => by rw [q]; omega
        refine w_inS (k := 0) (as := [(0, v289)]) (r := [(2, 82)]) (ls0 := [(0, v289)]) gz_37_81 gm_38 rfl rfl rfl rfl rfl rfl ?_
        refine w_iload_n gz_38_0 rfl ?_
        refine w_bipush gz_38_1 (by decide) ?_
        refine w_iclt (t := 14) gz_38_3 rfl (fun u290 => ?_) (fun u290 => ?_)
        ·
          refine w_iload_n gz_38_14 rfl ?_
          refine w_bipush gz_38_15 (by decide) ?_
          refine w_iclt (t := 28) gz_38_17 rfl (fun u291 => ?_) (fun u291 => ?_)
          ·
            refine w_iload_n gz_38_28 rfl ?_
            refine w_bipush gz_38_29 (by decide) ?_
            refine w_icne (t := 38) gz_38_31 rfl (fun u292 => ?_) (fun u292 => by exfalso; omega)
            refine w_iconst gz_38_38 (by decide) ?_
            refine w_iret gz_38_39 gm_38 ?_
            show wp l rho (d + 1) 37 84 [(2, 82), (9, 0), (9, 0)] [(0, 4), (2, 82)] h283 Q
            refine w_goto (t := 88) gz_37_84 rfl ?_
            refine v_putI (j := 6) gz_37_88 rfl is_82 rd_5 rfl (by omega) (by omega) rfl (fun h293 fh293 => ?_)
            have gh293 : my_fr [(5, 5), (5, 6), (5, 7), (5, 8)] h h293 := my_fr.up gh283 is_82 fh293 rfl
            refine w_aload_n gz_37_91 rfl ?_
            refine v_getI (j := 6) gz_37_92 rfl is_82 rd_5 rfl (fun v294 ev294 pv294 qv294 => ?_)
            have zv294 := ev294.trans (my_up_self fh293)
            refine w_ifne (t := 99) gz_37_95 rfl (fun u295 => ?_) (fun u295 => by exfalso; omega)
            refine w_aload_n gz_37_99 rfl ?_
            refine w_iconst gz_37_100 (by decide) ?_
            refine v_putI (j := 8) gz_37_101 rfl is_82 rd_5 rfl (by omega) (by omega) rfl (fun h296 fh296 => ?_)
            have gh296 : my_fr [(5, 5), (5, 6), (5, 7), (5, 8)] h h296 := my_fr.up gh293 is_82 fh296 rfl
            refine w_aload_n gz_37_104 rfl ?_
            refine v_getI (j := 6) gz_37_105 rfl is_82 rd_5 rfl (fun v297 ev297 pv297 qv297 => ?_)
            have zv297 := ev297.trans ((my_up_fld fh296 (by decide)).trans ev294.symm)
            refine w_iconst gz_37_108 (by decide) ?_
            refine w_icne (t := 117) gz_37_109 rfl (fun u298 => ?_) (fun u298 => by exfalso; omega)
            refine w_aload_n gz_37_117 rfl ?_
            refine v_getI (j := 6) gz_37_118 rfl is_82 rd_5 rfl (fun v299 ev299 pv299 qv299 => ?_)
            have zv299 := ev299.trans ev297.symm
            refine w_iconst gz_37_121 (by decide) ?_
            refine w_icne (t := 129) gz_37_122 rfl (fun u300 => ?_) (fun u300 => by exfalso; omega)
            refine w_iconst gz_37_129 (by decide) ?_
            refine w_istore_n (ls' := [(2, 82), (0, 1), (9, 0)]) gz_37_130 gm_37 rfl rfl rfl ?_
            refine w_aload_n gz_37_131 rfl ?_
            refine v_getI (j := 7) gz_37_132 rfl is_82 rd_5 rfl (fun v301 ev301 pv301 qv301 => ?_)
            have zv301 := ev301.trans ((my_up_fld fh296 (by decide)).trans ((my_up_fld fh293 (by decide)).trans (my_up_self fh283)))
            refine w_iconst gz_37_135 (by decide) ?_
            refine w_iadd gz_37_136 ⟨by omega, by omega⟩ ?_
            refine w_istore_n (ls' := [(2, 82), (0, 1), (0, (v301 + 1))]) gz_37_137 gm_37 rfl rfl rfl ?_
            have ce302 : h296 82 5 = v288 := ((my_up_fld fh296 (by decide)).trans ((my_up_fld fh293 (by decide)).trans ev288.symm))
            have ce303 : h296 82 6 = v299 := ev299.symm
            have ce304 : h296 82 7 = v301 := ev301.symm
            have ce305 : h296 82 8 = 0 := (my_up_self fh296)
            have sg : ∀ j : Int, h296 92 j = h 92 j := fun j => ((my_up_role fh296 is_92 is_82 rfl).trans ((my_up_role fh293 is_92 is_82 rfl).trans ((my_up_role fh283 is_92 is_82 rfl).trans (rfl : h 92 j = h 92 j))))
            exact J138_0 (1001) (1) ((v301 + 1)) (v288) (v299) h296 (gh296) (by omega) (by omega) (by omega) (by omega) (by omega) (by omega) (by omega) (by omega) (by omega) (by omega) (by omega) (by omega) (by omega) (by omega) (by omega) (by omega) (((my_up_fld fh296 (by decide)).trans ((my_up_fld fh293 (by decide)).trans ev285.symm)).trans (by omega)) (((my_up_fld fh296 (by decide)).trans ((my_up_fld fh293 (by decide)).trans ev288.symm)).trans (by omega)) (ev299.symm.trans (by omega)) (ev301.symm.trans (by omega)) ((my_up_self fh296).trans (by omega)) (((my_up_fld fh296 (by decide)).trans ((my_up_fld fh293 (by decide)).trans ((my_up_fld fh283 (by decide)).trans cf))).trans (by omega)) (by omega) (by first | (intro t k a b; rw [sg]; exact dg_181_0 (by omega) k (by omega) (by omega)) | (intro t k a b; rw [sg]; exact dg_138_0 (by omega) k (by omega) (by omega)) | (intro t k a b; rw [sg, ← sg0, sgi k (by omega)]; omega) | (intro t; omega) | (intro t k a b; rw [sg]; rcases (by omega : k = p138_1 ∨ k < p138_1) with q | q <;> first | exact dg_138_0 (by omega) k (by omega) (by omega) | (subst q; omega))) (by first | assumption | omega | (subst_vars; omega)) (by first | assumption | omega | (subst_vars; omega)) (by first | assumption | omega | (subst_vars; omega)) (by omega)
          ·
            refine w_iload_n gz_38_20 rfl ?_
            refine w_bipush gz_38_21 (by decide) ?_
            refine w_icgt (t := 28) gz_38_23 rfl (fun u306 => ?_) (fun u306 => ?_)
            ·
              refine w_iload_n gz_38_28 rfl ?_
              refine w_bipush gz_38_29 (by decide) ?_
              refine w_icne (t := 38) gz_38_31 rfl (fun u307 => ?_) (fun u307 => ?_)
              ·
                refine w_iconst gz_38_38 (by decide) ?_
                refine w_iret gz_38_39 gm_38 ?_
                show wp l rho (d + 1) 37 84 [(2, 82), (9, 0), (9, 0)] [(0, 4), (2, 82)] h283 Q
                refine w_goto (t := 88) gz_37_84 rfl ?_
                refine v_putI (j := 6) gz_37_88 rfl is_82 rd_5 rfl (by omega) (by omega) rfl (fun h308 fh308 => ?_)
                have gh308 : my_fr [(5, 5), (5, 6), (5, 7), (5, 8)] h h308 := my_fr.up gh283 is_82 fh308 rfl
                refine w_aload_n gz_37_91 rfl ?_
                refine v_getI (j := 6) gz_37_92 rfl is_82 rd_5 rfl (fun v309 ev309 pv309 qv309 => ?_)
                have zv309 := ev309.trans (my_up_self fh308)
                refine w_ifne (t := 99) gz_37_95 rfl (fun u310 => ?_) (fun u310 => by exfalso; omega)
                refine w_aload_n gz_37_99 rfl ?_
                refine w_iconst gz_37_100 (by decide) ?_
                refine v_putI (j := 8) gz_37_101 rfl is_82 rd_5 rfl (by omega) (by omega) rfl (fun h311 fh311 => ?_)
                have gh311 : my_fr [(5, 5), (5, 6), (5, 7), (5, 8)] h h311 := my_fr.up gh308 is_82 fh311 rfl
                refine w_aload_n gz_37_104 rfl ?_
                refine v_getI (j := 6) gz_37_105 rfl is_82 rd_5 rfl (fun v312 ev312 pv312 qv312 => ?_)
                have zv312 := ev312.trans ((my_up_fld fh311 (by decide)).trans ev309.symm)
                refine w_iconst gz_37_108 (by decide) ?_
                refine w_icne (t := 117) gz_37_109 rfl (fun u313 => ?_) (fun u313 => by exfalso; omega)
                refine w_aload_n gz_37_117 rfl ?_
                refine v_getI (j := 6) gz_37_118 rfl is_82 rd_5 rfl (fun v314 ev314 pv314 qv314 => ?_)
                have zv314 := ev314.trans ev312.symm
                refine w_iconst gz_37_121 (by decide) ?_
                refine w_icne (t := 129) gz_37_122 rfl (fun u315 => ?_) (fun u315 => by exfalso; omega)
                refine w_iconst gz_37_129 (by decide) ?_
                refine w_istore_n (ls' := [(2, 82), (0, 1), (9, 0)]) gz_37_130 gm_37 rfl rfl rfl ?_
                refine w_aload_n gz_37_131 rfl ?_
                refine v_getI (j := 7) gz_37_132 rfl is_82 rd_5 rfl (fun v316 ev316 pv316 qv316 => ?_)
                have zv316 := ev316.trans ((my_up_fld fh311 (by decide)).trans ((my_up_fld fh308 (by decide)).trans (my_up_self fh283)))
                refine w_iconst gz_37_135 (by decide) ?_
                refine w_iadd gz_37_136 ⟨by omega, by omega⟩ ?_
                refine w_istore_n (ls' := [(2, 82), (0, 1), (0, (v316 + 1))]) gz_37_137 gm_37 rfl rfl rfl ?_
                have ce317 : h311 82 5 = v288 := ((my_up_fld fh311 (by decide)).trans ((my_up_fld fh308 (by decide)).trans ev288.symm))
                have ce318 : h311 82 6 = v314 := ev314.symm
                have ce319 : h311 82 7 = v316 := ev316.symm
                have ce320 : h311 82 8 = 0 := (my_up_self fh311)
                have sg : ∀ j : Int, h311 92 j = h 92 j := fun j => ((my_up_role fh311 is_92 is_82 rfl).trans ((my_up_role fh308 is_92 is_82 rfl).trans ((my_up_role fh283 is_92 is_82 rfl).trans (rfl : h 92 j = h 92 j))))
                exact J138_0 (1001) (1) ((v316 + 1)) (v288) (v314) h311 (gh311) (by omega) (by omega) (by omega) (by omega) (by omega) (by omega) (by omega) (by omega) (by omega) (by omega) (by omega) (by omega) (by omega) (by omega) (by omega) (by omega) (((my_up_fld fh311 (by decide)).trans ((my_up_fld fh308 (by decide)).trans ev285.symm)).trans (by omega)) (((my_up_fld fh311 (by decide)).trans ((my_up_fld fh308 (by decide)).trans ev288.symm)).trans (by omega)) (ev314.symm.trans (by omega)) (ev316.symm.trans (by omega)) ((my_up_self fh311).trans (by omega)) (((my_up_fld fh311 (by decide)).trans ((my_up_fld fh308 (by decide)).trans ((my_up_fld fh283 (by decide)).trans cf))).trans (by omega)) (by omega) (by first | (intro t k a b; rw [sg]; exact dg_181_0 (by omega) k (by omega) (by omega)) | (intro t k a b; rw [sg]; exact dg_138_0 (by omega) k (by omega) (by omega)) | (intro t k a b; rw [sg, ← sg0, sgi k (by omega)]; omega) | (intro t; omega) | (intro t k a b; rw [sg]; rcases (by omega : k = p138_1 ∨ k < p138_1) with q | q <;> first | exact dg_138_0 (by omega) k (by omega) (by omega) | (subst q; omega))) (by first | assumption | omega | (subst_vars; omega)) (by first | assumption | omega | (subst_vars; omega)) (by first | assumption | omega | (subst_vars; omega)) (by omega)
              ·
                refine w_iconst gz_38_34 (by decide) ?_
                refine w_goto (t := 39) gz_38_35 rfl ?_
                refine w_iret gz_38_39 gm_38 ?_
                show wp l rho (d + 1) 37 84 [(2, 82), (9, 0), (9, 0)] [(0, 3), (2, 82)] h283 Q
                refine w_goto (t := 88) gz_37_84 rfl ?_
                refine v_putI (j := 6) gz_37_88 rfl is_82 rd_5 rfl (by omega) (by omega) rfl (fun h321 fh321 => ?_)
                have gh321 : my_fr [(5, 5), (5, 6), (5, 7), (5, 8)] h h321 := my_fr.up gh283 is_82 fh321 rfl
                refine w_aload_n gz_37_91 rfl ?_
                refine v_getI (j := 6) gz_37_92 rfl is_82 rd_5 rfl (fun v322 ev322 pv322 qv322 => ?_)
                have zv322 := ev322.trans (my_up_self fh321)
                refine w_ifne (t := 99) gz_37_95 rfl (fun u323 => ?_) (fun u323 => by exfalso; omega)
                refine w_aload_n gz_37_99 rfl ?_
                refine w_iconst gz_37_100 (by decide) ?_
                refine v_putI (j := 8) gz_37_101 rfl is_82 rd_5 rfl (by omega) (by omega) rfl (fun h324 fh324 => ?_)
                have gh324 : my_fr [(5, 5), (5, 6), (5, 7), (5, 8)] h h324 := my_fr.up gh321 is_82 fh324 rfl
                refine w_aload_n gz_37_104 rfl ?_
                refine v_getI (j := 6) gz_37_105 rfl is_82 rd_5 rfl (fun v325 ev325 pv325 qv325 => ?_)
                have zv325 := ev325.trans ((my_up_fld fh324 (by decide)).trans ev322.symm)
                refine w_iconst gz_37_108 (by decide) ?_
                refine w_icne (t := 117) gz_37_109 rfl (fun u326 => ?_) (fun u326 => by exfalso; omega)
                refine w_aload_n gz_37_117 rfl ?_
                refine v_getI (j := 6) gz_37_118 rfl is_82 rd_5 rfl (fun v327 ev327 pv327 qv327 => ?_)
                have zv327 := ev327.trans ev325.symm
                refine w_iconst gz_37_121 (by decide) ?_
                refine w_icne (t := 129) gz_37_122 rfl (fun u328 => ?_) (fun u328 => by exfalso; omega)
                refine w_iconst gz_37_129 (by decide) ?_
                refine w_istore_n (ls' := [(2, 82), (0, 1), (9, 0)]) gz_37_130 gm_37 rfl rfl rfl ?_
                refine w_aload_n gz_37_131 rfl ?_
                refine v_getI (j := 7) gz_37_132 rfl is_82 rd_5 rfl (fun v329 ev329 pv329 qv329 => ?_)
                have zv329 := ev329.trans ((my_up_fld fh324 (by decide)).trans ((my_up_fld fh321 (by decide)).trans (my_up_self fh283)))
                refine w_iconst gz_37_135 (by decide) ?_
                refine w_iadd gz_37_136 ⟨by omega, by omega⟩ ?_
                refine w_istore_n (ls' := [(2, 82), (0, 1), (0, (v329 + 1))]) gz_37_137 gm_37 rfl rfl rfl ?_
                have ce330 : h324 82 5 = v288 := ((my_up_fld fh324 (by decide)).trans ((my_up_fld fh321 (by decide)).trans ev288.symm))
                have ce331 : h324 82 6 = v327 := ev327.symm
                have ce332 : h324 82 7 = v329 := ev329.symm
                have ce333 : h324 82 8 = 0 := (my_up_self fh324)
                have sg : ∀ j : Int, h324 92 j = h 92 j := fun j => ((my_up_role fh324 is_92 is_82 rfl).trans ((my_up_role fh321 is_92 is_82 rfl).trans ((my_up_role fh283 is_92 is_82 rfl).trans (rfl : h 92 j = h 92 j))))
                exact J138_0 (1001) (1) ((v329 + 1)) (v288) (v327) h324 (gh324) (by omega) (by omega) (by omega) (by omega) (by omega) (by omega) (by omega) (by omega) (by omega) (by omega) (by omega) (by omega) (by omega) (by omega) (by omega) (by omega) (((my_up_fld fh324 (by decide)).trans ((my_up_fld fh321 (by decide)).trans ev285.symm)).trans (by omega)) (((my_up_fld fh324 (by decide)).trans ((my_up_fld fh321 (by decide)).trans ev288.symm)).trans (by omega)) (ev327.symm.trans (by omega)) (ev329.symm.trans (by omega)) ((my_up_self fh324).trans (by omega)) (((my_up_fld fh324 (by decide)).trans ((my_up_fld fh321 (by decide)).trans ((my_up_fld fh283 (by decide)).trans cf))).trans (by omega)) (by omega) (by first | (intro t k a b; rw [sg]; exact dg_181_0 (by omega) k (by omega) (by omega)) | (intro t k a b; rw [sg]; exact dg_138_0 (by omega) k (by omega) (by omega)) | (intro t k a b; rw [sg, ← sg0, sgi k (by omega)]; omega) | (intro t; omega) | (intro t k a b; rw [sg]; rcases (by omega : k = p138_1 ∨ k < p138_1) with q | q <;> first | exact dg_138_0 (by omega) k (by omega) (by omega) | (subst q; omega))) (by first | assumption | omega | (subst_vars; omega)) (by first | assumption | omega | (subst_vars; omega)) (by first | assumption | omega | (subst_vars; omega)) (by omega)
            ·
              refine w_iconst gz_38_26 (by decide) ?_
              refine w_iret gz_38_27 gm_38 ?_
              show wp l rho (d + 1) 37 84 [(2, 82), (9, 0), (9, 0)] [(0, 2), (2, 82)] h283 Q
              refine w_goto (t := 88) gz_37_84 rfl ?_
              refine v_putI (j := 6) gz_37_88 rfl is_82 rd_5 rfl (by omega) (by omega) rfl (fun h334 fh334 => ?_)
              have gh334 : my_fr [(5, 5), (5, 6), (5, 7), (5, 8)] h h334 := my_fr.up gh283 is_82 fh334 rfl
              refine w_aload_n gz_37_91 rfl ?_
              refine v_getI (j := 6) gz_37_92 rfl is_82 rd_5 rfl (fun v335 ev335 pv335 qv335 => ?_)
              have zv335 := ev335.trans (my_up_self fh334)
              refine w_ifne (t := 99) gz_37_95 rfl (fun u336 => ?_) (fun u336 => by exfalso; omega)
              refine w_aload_n gz_37_99 rfl ?_
              refine w_iconst gz_37_100 (by decide) ?_
              refine v_putI (j := 8) gz_37_101 rfl is_82 rd_5 rfl (by omega) (by omega) rfl (fun h337 fh337 => ?_)
              have gh337 : my_fr [(5, 5), (5, 6), (5, 7), (5, 8)] h h337 := my_fr.up gh334 is_82 fh337 rfl
              refine w_aload_n gz_37_104 rfl ?_
              refine v_getI (j := 6) gz_37_105 rfl is_82 rd_5 rfl (fun v338 ev338 pv338 qv338 => ?_)
              have zv338 := ev338.trans ((my_up_fld fh337 (by decide)).trans ev335.symm)
              refine w_iconst gz_37_108 (by decide) ?_
              refine w_icne (t := 117) gz_37_109 rfl (fun u339 => ?_) (fun u339 => by exfalso; omega)
              refine w_aload_n gz_37_117 rfl ?_
              refine v_getI (j := 6) gz_37_118 rfl is_82 rd_5 rfl (fun v340 ev340 pv340 qv340 => ?_)
              have zv340 := ev340.trans ev338.symm
              refine w_iconst gz_37_121 (by decide) ?_
              refine w_icne (t := 129) gz_37_122 rfl (fun u341 => by exfalso; omega) (fun u341 => ?_)
              refine w_iconst gz_37_125 (by decide) ?_
              refine w_goto (t := 130) gz_37_126 rfl ?_
              refine w_istore_n (ls' := [(2, 82), (0, 3), (9, 0)]) gz_37_130 gm_37 rfl rfl rfl ?_
              refine w_aload_n gz_37_131 rfl ?_
              refine v_getI (j := 7) gz_37_132 rfl is_82 rd_5 rfl (fun v342 ev342 pv342 qv342 => ?_)
              have zv342 := ev342.trans ((my_up_fld fh337 (by decide)).trans ((my_up_fld fh334 (by decide)).trans (my_up_self fh283)))
              refine w_iconst gz_37_135 (by decide) ?_
              refine w_iadd gz_37_136 ⟨by omega, by omega⟩ ?_
              refine w_istore_n (ls' := [(2, 82), (0, 3), (0, (v342 + 1))]) gz_37_137 gm_37 rfl rfl rfl ?_
              have ce343 : h337 82 5 = v288 := ((my_up_fld fh337 (by decide)).trans ((my_up_fld fh334 (by decide)).trans ev288.symm))
              have ce344 : h337 82 6 = v340 := ev340.symm
              have ce345 : h337 82 7 = v342 := ev342.symm
              have ce346 : h337 82 8 = 0 := (my_up_self fh337)
              have sg : ∀ j : Int, h337 92 j = h 92 j := fun j => ((my_up_role fh337 is_92 is_82 rfl).trans ((my_up_role fh334 is_92 is_82 rfl).trans ((my_up_role fh283 is_92 is_82 rfl).trans (rfl : h 92 j = h 92 j))))
              exact J138_0 (1001) (3) ((v342 + 1)) (v288) (v340) h337 (gh337) (by omega) (by omega) (by omega) (by omega) (by omega) (by omega) (by omega) (by omega) (by omega) (by omega) (by omega) (by omega) (by omega) (by omega) (by omega) (by omega) (((my_up_fld fh337 (by decide)).trans ((my_up_fld fh334 (by decide)).trans ev285.symm)).trans (by omega)) (((my_up_fld fh337 (by decide)).trans ((my_up_fld fh334 (by decide)).trans ev288.symm)).trans (by omega)) (ev340.symm.trans (by omega)) (ev342.symm.trans (by omega)) ((my_up_self fh337).trans (by omega)) (((my_up_fld fh337 (by decide)).trans ((my_up_fld fh334 (by decide)).trans ((my_up_fld fh283 (by decide)).trans cf))).trans (by omega)) (by omega) (by first | (intro t k a b; rw [sg]; exact dg_181_0 (by omega) k (by omega) (by omega)) | (intro t k a b; rw [sg]; exact dg_138_0 (by omega) k (by omega) (by omega)) | (intro t k a b; rw [sg, ← sg0, sgi k (by omega)]; omega) | (intro t; omega) | (intro t k a b; rw [sg]; rcases (by omega : k = p138_1 ∨ k < p138_1) with q | q <;> first | exact dg_138_0 (by omega) k (by omega) (by omega) | (subst q; omega))) (by first | assumption | omega | (subst_vars; omega)) (by first | assumption | omega | (subst_vars; omega)) (by first | assumption | omega | (subst_vars; omega)) (by omega)
        ·
          refine w_iload_n gz_38_6 rfl ?_
          refine w_bipush gz_38_7 (by decide) ?_
          refine w_icgt (t := 14) gz_38_9 rfl (fun u347 => ?_) (fun u347 => ?_)
          ·
            refine w_iload_n gz_38_14 rfl ?_
            refine w_bipush gz_38_15 (by decide) ?_
            refine w_iclt (t := 28) gz_38_17 rfl (fun u348 => by exfalso; omega) (fun u348 => ?_)
            refine w_iload_n gz_38_20 rfl ?_
            refine w_bipush gz_38_21 (by decide) ?_
            refine w_icgt (t := 28) gz_38_23 rfl (fun u349 => ?_) (fun u349 => by exfalso; omega)
            refine w_iload_n gz_38_28 rfl ?_
            refine w_bipush gz_38_29 (by decide) ?_
            refine w_icne (t := 38) gz_38_31 rfl (fun u350 => ?_) (fun u350 => by exfalso; omega)
            refine w_iconst gz_38_38 (by decide) ?_
            refine w_iret gz_38_39 gm_38 ?_
            show wp l rho (d + 1) 37 84 [(2, 82), (9, 0), (9, 0)] [(0, 4), (2, 82)] h283 Q
            refine w_goto (t := 88) gz_37_84 rfl ?_
            refine v_putI (j := 6) gz_37_88 rfl is_82 rd_5 rfl (by omega) (by omega) rfl (fun h351 fh351 => ?_)
            have gh351 : my_fr [(5, 5), (5, 6), (5, 7), (5, 8)] h h351 := my_fr.up gh283 is_82 fh351 rfl
            refine w_aload_n gz_37_91 rfl ?_
            refine v_getI (j := 6) gz_37_92 rfl is_82 rd_5 rfl (fun v352 ev352 pv352 qv352 => ?_)
            have zv352 := ev352.trans (my_up_self fh351)
            refine w_ifne (t := 99) gz_37_95 rfl (fun u353 => ?_) (fun u353 => by exfalso; omega)
            refine w_aload_n gz_37_99 rfl ?_
            refine w_iconst gz_37_100 (by decide) ?_
            refine v_putI (j := 8) gz_37_101 rfl is_82 rd_5 rfl (by omega) (by omega) rfl (fun h354 fh354 => ?_)
            have gh354 : my_fr [(5, 5), (5, 6), (5, 7), (5, 8)] h h354 := my_fr.up gh351 is_82 fh354 rfl
            refine w_aload_n gz_37_104 rfl ?_
            refine v_getI (j := 6) gz_37_105 rfl is_82 rd_5 rfl (fun v355 ev355 pv355 qv355 => ?_)
            have zv355 := ev355.trans ((my_up_fld fh354 (by decide)).trans ev352.symm)
            refine w_iconst gz_37_108 (by decide) ?_
            refine w_icne (t := 117) gz_37_109 rfl (fun u356 => ?_) (fun u356 => by exfalso; omega)
            refine w_aload_n gz_37_117 rfl ?_
            refine v_getI (j := 6) gz_37_118 rfl is_82 rd_5 rfl (fun v357 ev357 pv357 qv357 => ?_)
            have zv357 := ev357.trans ev355.symm
            refine w_iconst gz_37_121 (by decide) ?_
            refine w_icne (t := 129) gz_37_122 rfl (fun u358 => ?_) (fun u358 => by exfalso; omega)
            refine w_iconst gz_37_129 (by decide) ?_
            refine w_istore_n (ls' := [(2, 82), (0, 1), (9, 0)]) gz_37_130 gm_37 rfl rfl rfl ?_
            refine w_aload_n gz_37_131 rfl ?_
            refine v_getI (j := 7) gz_37_132 rfl is_82 rd_5 rfl (fun v359 ev359 pv359 qv359 => ?_)
            have zv359 := ev359.trans ((my_up_fld fh354 (by decide)).trans ((my_up_fld fh351 (by decide)).trans (my_up_self fh283)))
            refine w_iconst gz_37_135 (by decide) ?_
            refine w_iadd gz_37_136 ⟨by omega, by omega⟩ ?_
            refine w_istore_n (ls' := [(2, 82), (0, 1), (0, (v359 + 1))]) gz_37_137 gm_37 rfl rfl rfl ?_
            have ce360 : h354 82 5 = v288 := ((my_up_fld fh354 (by decide)).trans ((my_up_fld fh351 (by decide)).trans ev288.symm))
            have ce361 : h354 82 6 = v357 := ev357.symm
            have ce362 : h354 82 7 = v359 := ev359.symm
            have ce363 : h354 82 8 = 0 := (my_up_self fh354)
            have sg : ∀ j : Int, h354 92 j = h 92 j := fun j => ((my_up_role fh354 is_92 is_82 rfl).trans ((my_up_role fh351 is_92 is_82 rfl).trans ((my_up_role fh283 is_92 is_82 rfl).trans (rfl : h 92 j = h 92 j))))
            exact J138_0 (1001) (1) ((v359 + 1)) (v288) (v357) h354 (gh354) (by omega) (by omega) (by omega) (by omega) (by omega) (by omega) (by omega) (by omega) (by omega) (by omega) (by omega) (by omega) (by omega) (by omega) (by omega) (by omega) (((my_up_fld fh354 (by decide)).trans ((my_up_fld fh351 (by decide)).trans ev285.symm)).trans (by omega)) (((my_up_fld fh354 (by decide)).trans ((my_up_fld fh351 (by decide)).trans ev288.symm)).trans (by omega)) (ev357.symm.trans (by omega)) (ev359.symm.trans (by omega)) ((my_up_self fh354).trans (by omega)) (((my_up_fld fh354 (by decide)).trans ((my_up_fld fh351 (by decide)).trans ((my_up_fld fh283 (by decide)).trans cf))).trans (by omega)) (by omega) (by first | (intro t k a b; rw [sg]; exact dg_181_0 (by omega) k (by omega) (by omega)) | (intro t k a b; rw [sg]; exact dg_138_0 (by omega) k (by omega) (by omega)) | (intro t k a b; rw [sg, ← sg0, sgi k (by omega)]; omega) | (intro t; omega) | (intro t k a b; rw [sg]; rcases (by omega : k = p138_1 ∨ k < p138_1) with q | q <;> first | exact dg_138_0 (by omega) k (by omega) (by omega) | (subst q; omega))) (by first | assumption | omega | (subst_vars; omega)) (by first | assumption | omega | (subst_vars; omega)) (by first | assumption | omega | (subst_vars; omega)) (by omega)
          ·
            refine w_iconst gz_38_12 (by decide) ?_
            refine w_iret gz_38_13 gm_38 ?_
            show wp l rho (d + 1) 37 84 [(2, 82), (9, 0), (9, 0)] [(0, 1), (2, 82)] h283 Q
            refine w_goto (t := 88) gz_37_84 rfl ?_
            refine v_putI (j := 6) gz_37_88 rfl is_82 rd_5 rfl (by omega) (by omega) rfl (fun h364 fh364 => ?_)
            have gh364 : my_fr [(5, 5), (5, 6), (5, 7), (5, 8)] h h364 := my_fr.up gh283 is_82 fh364 rfl
            refine w_aload_n gz_37_91 rfl ?_
            refine v_getI (j := 6) gz_37_92 rfl is_82 rd_5 rfl (fun v365 ev365 pv365 qv365 => ?_)
            have zv365 := ev365.trans (my_up_self fh364)
            refine w_ifne (t := 99) gz_37_95 rfl (fun u366 => ?_) (fun u366 => by exfalso; omega)
            refine w_aload_n gz_37_99 rfl ?_
            refine w_iconst gz_37_100 (by decide) ?_
            refine v_putI (j := 8) gz_37_101 rfl is_82 rd_5 rfl (by omega) (by omega) rfl (fun h367 fh367 => ?_)
            have gh367 : my_fr [(5, 5), (5, 6), (5, 7), (5, 8)] h h367 := my_fr.up gh364 is_82 fh367 rfl
            refine w_aload_n gz_37_104 rfl ?_
            refine v_getI (j := 6) gz_37_105 rfl is_82 rd_5 rfl (fun v368 ev368 pv368 qv368 => ?_)
            have zv368 := ev368.trans ((my_up_fld fh367 (by decide)).trans ev365.symm)
            refine w_iconst gz_37_108 (by decide) ?_
            refine w_icne (t := 117) gz_37_109 rfl (fun u369 => by exfalso; omega) (fun u369 => ?_)
            refine w_bipush gz_37_112 (by decide) ?_
            refine w_goto (t := 130) gz_37_114 rfl ?_
            refine w_istore_n (ls' := [(2, 82), (0, 8), (9, 0)]) gz_37_130 gm_37 rfl rfl rfl ?_
            refine w_aload_n gz_37_131 rfl ?_
            refine v_getI (j := 7) gz_37_132 rfl is_82 rd_5 rfl (fun v370 ev370 pv370 qv370 => ?_)
            have zv370 := ev370.trans ((my_up_fld fh367 (by decide)).trans ((my_up_fld fh364 (by decide)).trans (my_up_self fh283)))
            refine w_iconst gz_37_135 (by decide) ?_
            refine w_iadd gz_37_136 ⟨by omega, by omega⟩ ?_
            refine w_istore_n (ls' := [(2, 82), (0, 8), (0, (v370 + 1))]) gz_37_137 gm_37 rfl rfl rfl ?_
            have ce371 : h367 82 5 = v288 := ((my_up_fld fh367 (by decide)).trans ((my_up_fld fh364 (by decide)).trans ev288.symm))
            have ce372 : h367 82 6 = v368 := ev368.symm
            have ce373 : h367 82 7 = v370 := ev370.symm
            have ce374 : h367 82 8 = 0 := (my_up_self fh367)
            have sg : ∀ j : Int, h367 92 j = h 92 j := fun j => ((my_up_role fh367 is_92 is_82 rfl).trans ((my_up_role fh364 is_92 is_82 rfl).trans ((my_up_role fh283 is_92 is_82 rfl).trans (rfl : h 92 j = h 92 j))))
            exact J138_0 (1001) (8) ((v370 + 1)) (v288) (v368) h367 (gh367) (by omega) (by omega) (by omega) (by omega) (by omega) (by omega) (by omega) (by omega) (by omega) (by omega) (by omega) (by omega) (by omega) (by omega) (by omega) (by omega) (((my_up_fld fh367 (by decide)).trans ((my_up_fld fh364 (by decide)).trans ev285.symm)).trans (by omega)) (((my_up_fld fh367 (by decide)).trans ((my_up_fld fh364 (by decide)).trans ev288.symm)).trans (by omega)) (ev368.symm.trans (by omega)) (ev370.symm.trans (by omega)) ((my_up_self fh367).trans (by omega)) (((my_up_fld fh367 (by decide)).trans ((my_up_fld fh364 (by decide)).trans ((my_up_fld fh283 (by decide)).trans cf))).trans (by omega)) (by omega) (by first | (intro t k a b; rw [sg]; exact dg_181_0 (by omega) k (by omega) (by omega)) | (intro t k a b; rw [sg]; exact dg_138_0 (by omega) k (by omega) (by omega)) | (intro t k a b; rw [sg, ← sg0, sgi k (by omega)]; omega) | (intro t; omega) | (intro t k a b; rw [sg]; rcases (by omega : k = p138_1 ∨ k < p138_1) with q | q <;> first | exact dg_138_0 (by omega) k (by omega) (by omega) | (subst q; omega))) (by first | assumption | omega | (subst_vars; omega)) (by first | assumption | omega | (subst_vars; omega)) (by first | assumption | omega | (subst_vars; omega)) (by omega)
      ·
        refine w_aload_n gz_37_39 rfl ?_
        refine w_dup gz_37_40 rfl ?_
        refine v_getI (j := 5) gz_37_41 rfl is_82 rd_5 rfl (fun v375 ev375 pv375 qv375 => ?_)
        have zv375 := ev375.trans ev279.symm
        refine w_iconst gz_37_44 (by decide) ?_
        refine w_iadd gz_37_45 ⟨by omega, by omega⟩ ?_
        refine v_putI (j := 5) gz_37_46 rfl is_82 rd_5 rfl (by omega) (by omega) rfl (fun h376 fh376 => ?_)
        have gh376 : my_fr [(5, 5), (5, 6), (5, 7), (5, 8)] h h376 := my_fr.up my_fr.rf is_82 fh376 rfl
        refine w_goto (t := 0) gz_37_49 rfl ?_
        have ce377 : h376 82 5 = (v375 + 1) := (my_up_self fh376)
        exact J0_0 (1001) ((v375 + 1)) h376 (gh376) (by omega) (by omega) (by omega) (by omega) (by omega) (by omega) (by omega) (((my_up_fld fh376 (by decide)).trans ev259.symm).trans (by omega)) ((my_up_self fh376).trans (by omega)) (((my_up_fld fh376 (by decide)).trans cf).trans (by omega)) (by omega)
theorem c_Reader_isWord_f1 {l : Launch} {rho : Nat → Int32} {d : Nat} {h : my_H} {Q : my_H → my_V → Prop} {x1 : Int} (s1 : 1 ≤ x1 ∧ x1 ≤ 12) (xf : Int) (cf : h 82 9 = xf) (cf1 : 1 ≤ xf) (cf2 : xf ≤ 16005) (k0 : 1 ≤ h 82 9 → h 82 9 ≤ 16005 → Q h (0, 0)) (k1 : h 82 6 = 1 → 1 ≤ h 82 9 → h 82 9 ≤ 16005 → Q h (0, 1)) : wp l rho d 41 0 [(2, 82), (3, x1), (9, 0)] [] h Q := by
  refine v_know (x := 82) (j := 5) (b := 5) rfl is_82 rd_5 rfl (fun k82_5 ek82_5 pk82_5 qk82_5 => ?_)
  refine v_know (x := 82) (j := 7) (b := 7) rfl is_82 rd_5 rfl (fun k82_7 ek82_7 pk82_7 qk82_7 => ?_)
  have J28_0 : ∀ (n : Nat) (p28_0 p28_1 : Int), 0 ≤ p28_0 → p28_0 ≤ 6 → 1 ≤ p28_1 → p28_1 ≤ 16005 → h 82 5 = k82_5 → h 82 6 = 1 → h 82 7 = k82_7 → h 82 9 = p28_1 → h 82 5 - h 82 7 = my_sl x1 → 7 - p28_0 ≤ (n : Int) → wp l rho d 41 28 [(2, 82), (3, x1), (0, p28_0)] [] h Q := by
    intro n
    induction n with
    | zero => intro p28_0 p28_1 q0_28_0 q1_28_0 q2_28_0 q3_28_0 c82_5_28_0 c82_6_28_0 c82_7_28_0 c82_9_28_0 ln_28_0 hm_28_0; exfalso; omega
    | succ n ih_28_0 =>
      intro p28_0 p28_1 q0_28_0 q1_28_0 q2_28_0 q3_28_0 c82_5_28_0 c82_6_28_0 c82_7_28_0 c82_9_28_0 ln_28_0 hm_28_0
      refine w_iload_n gz_41_28 rfl ?_
      refine w_aload3_n gz_41_29 rfl ?_
      refine w_slen (q := 177) sdec_30 s1 ?_
      have bd1 := my_sl_bd s1
      refine w_icge (t := 63) gz_41_33 rfl (fun u2 => ?_) (fun u2 => ?_)
      ·
        refine w_iconst gz_41_63 (by decide) ?_
        have c3 := c82_6_28_0
        have c4 := c82_9_28_0
        exact w_bret gz_41_64 gm_41 (by omega) (by omega) (k1 (by omega) (by omega) (by omega))
      ·
        refine w_aload_n gz_41_36 rfl ?_
        refine w_getX (v := 92) gz_41_37 is_82 rd_5 rfl (by decide) rfl ?_
        refine w_aload_n gz_41_40 rfl ?_
        refine v_getI (j := 7) gz_41_41 rfl is_82 rd_5 rfl (fun v6 ev6 pv6 qv6 => ?_)
        have zv6 := ev6.trans c82_7_28_0
        refine w_iload_n gz_41_44 rfl ?_
        refine w_iadd gz_41_45 ⟨by omega, by omega⟩ ?_
        have hi7 : 0 ≤ (v6 + p28_0) := by omega
        have hi8 : (v6 + p28_0) ≤ 999 := by omega
        refine w_yald gz_41_46 is_92 rd_40 (by omega) (by omega) (fun v9 ev9 pv9 qv9 => ?_)
        refine w_aload3_n gz_41_47 rfl ?_
        refine w_iload_n gz_41_48 rfl ?_
        refine w_schr (q := 181) sdec_49 s1 (by omega) (by omega) (fun v10 pv10 qv10 => ?_)
        refine w_iceq (t := 57) gz_41_52 rfl (fun u11 => ?_) (fun u11 => ?_)
        ·
          refine w_iinc (ls' := [(2, 82), (3, x1), (0, (p28_0 + 1))]) gz_41_57 rfl gm_41 rfl rfl rfl ⟨by omega, by omega⟩ ?_
          refine w_goto (t := 28) gz_41_60 rfl ?_
          exact ih_28_0 ((p28_0 + 1)) (p28_1) (by omega) (by omega) (by omega) (by omega) (c82_5_28_0.trans (by omega)) (c82_6_28_0.trans (by omega)) (ev6.symm.trans (by omega)) (c82_9_28_0.trans (by omega)) (by first | assumption | omega | (subst_vars; omega)) (by omega)
        ·
          refine w_iconst gz_41_55 (by decide) ?_
          have c12 := c82_9_28_0
          exact w_bret gz_41_56 gm_41 (by omega) (by omega) (k0 (by omega) (by omega))
  refine w_aload_n gz_41_0 rfl ?_
  refine v_getI (j := 6) gz_41_1 rfl is_82 rd_5 rfl (fun v13 ev13 pv13 qv13 => ?_)
  refine w_iconst gz_41_4 (by decide) ?_
  refine w_icne (t := 24) gz_41_5 rfl (fun u14 => ?_) (fun u14 => ?_)
  ·
    refine w_iconst gz_41_24 (by decide) ?_
    have c15 := cf
    exact w_bret gz_41_25 gm_41 (by omega) (by omega) (k0 (by omega) (by omega))
  ·
    refine w_aload_n gz_41_8 rfl ?_
    refine v_getI (j := 5) gz_41_9 rfl is_82 rd_5 rfl (fun v16 ev16 pv16 qv16 => ?_)
    have zv16 := ev16.trans ek82_5.symm
    refine w_aload_n gz_41_12 rfl ?_
    refine v_getI (j := 7) gz_41_13 rfl is_82 rd_5 rfl (fun v17 ev17 pv17 qv17 => ?_)
    have zv17 := ev17.trans ek82_7.symm
    refine w_isub gz_41_16 ⟨by omega, by omega⟩ ?_
    refine w_aload3_n gz_41_17 rfl ?_
    refine w_slen (q := 177) sdec_18 s1 ?_
    have bd18 := my_sl_bd s1
    refine w_iceq (t := 26) gz_41_21 rfl (fun u19 => ?_) (fun u19 => ?_)
    ·
      refine w_iconst gz_41_26 (by decide) ?_
      refine w_istore_n (ls' := [(2, 82), (3, x1), (0, 0)]) gz_41_27 gm_41 rfl rfl rfl ?_
      exact J28_0 7 (0) (xf) (by omega) (by omega) (by omega) (by omega) (ev16.symm.trans (by omega)) (ev13.symm.trans (by omega)) (ev17.symm.trans (by omega)) (cf.trans (by omega)) (by first | assumption | omega | (subst_vars; omega)) (by omega)
    ·
      refine w_iconst gz_41_24 (by decide) ?_
      have c20 := cf
      exact w_bret gz_41_25 gm_41 (by omega) (by omega) (k0 (by omega) (by omega))
theorem c_Reader_isWord_f0 {l : Launch} {rho : Nat → Int32} {d : Nat} {h : my_H} {Q : my_H → my_V → Prop} {x1 : Int} (s1 : 1 ≤ x1 ∧ x1 ≤ 12) (cf : h 82 9 = 0) (k0 : h 82 9 = 0 → Q h (0, 0)) (k1 : h 82 6 = 1 → h 82 9 = 0 → Q h (0, 1)) : wp l rho d 41 0 [(2, 82), (3, x1), (9, 0)] [] h Q := by
  refine v_know (x := 82) (j := 5) (b := 5) rfl is_82 rd_5 rfl (fun k82_5 ek82_5 pk82_5 qk82_5 => ?_)
  refine v_know (x := 82) (j := 7) (b := 7) rfl is_82 rd_5 rfl (fun k82_7 ek82_7 pk82_7 qk82_7 => ?_)
  have J28_0 : ∀ (n : Nat) (p28_0 : Int), 0 ≤ p28_0 → p28_0 ≤ 6 → h 82 5 = k82_5 → h 82 6 = 1 → h 82 7 = k82_7 → h 82 9 = 0 → h 82 5 - h 82 7 = my_sl x1 → 7 - p28_0 ≤ (n : Int) → wp l rho d 41 28 [(2, 82), (3, x1), (0, p28_0)] [] h Q := by
    intro n
    induction n with
    | zero => intro p28_0 q0_28_0 q1_28_0 c82_5_28_0 c82_6_28_0 c82_7_28_0 c82_9_28_0 ln_28_0 hm_28_0; exfalso; omega
    | succ n ih_28_0 =>
      intro p28_0 q0_28_0 q1_28_0 c82_5_28_0 c82_6_28_0 c82_7_28_0 c82_9_28_0 ln_28_0 hm_28_0
      refine w_iload_n gz_41_28 rfl ?_
      refine w_aload3_n gz_41_29 rfl ?_
      refine w_slen (q := 177) sdec_30 s1 ?_
      have bd1 := my_sl_bd s1
      refine w_icge (t := 63) gz_41_33 rfl (fun u2 => ?_) (fun u2 => ?_)
      ·
        refine w_iconst gz_41_63 (by decide) ?_
        have c3 := c82_6_28_0
        have c4 := c82_9_28_0
        exact w_bret gz_41_64 gm_41 (by omega) (by omega) (k1 (by omega) (by omega))
      ·
        refine w_aload_n gz_41_36 rfl ?_
        refine w_getX (v := 92) gz_41_37 is_82 rd_5 rfl (by decide) rfl ?_
        refine w_aload_n gz_41_40 rfl ?_
        refine v_getI (j := 7) gz_41_41 rfl is_82 rd_5 rfl (fun v6 ev6 pv6 qv6 => ?_)
        have zv6 := ev6.trans c82_7_28_0
        refine w_iload_n gz_41_44 rfl ?_
        refine w_iadd gz_41_45 ⟨by omega, by omega⟩ ?_
        have hi7 : 0 ≤ (v6 + p28_0) := by omega
        have hi8 : (v6 + p28_0) ≤ 999 := by omega
        refine w_yald gz_41_46 is_92 rd_40 (by omega) (by omega) (fun v9 ev9 pv9 qv9 => ?_)
        refine w_aload3_n gz_41_47 rfl ?_
        refine w_iload_n gz_41_48 rfl ?_
        refine w_schr (q := 181) sdec_49 s1 (by omega) (by omega) (fun v10 pv10 qv10 => ?_)
        refine w_iceq (t := 57) gz_41_52 rfl (fun u11 => ?_) (fun u11 => ?_)
        ·
          refine w_iinc (ls' := [(2, 82), (3, x1), (0, (p28_0 + 1))]) gz_41_57 rfl gm_41 rfl rfl rfl ⟨by omega, by omega⟩ ?_
          refine w_goto (t := 28) gz_41_60 rfl ?_
          exact ih_28_0 ((p28_0 + 1)) (by omega) (by omega) (c82_5_28_0.trans (by omega)) (c82_6_28_0.trans (by omega)) (ev6.symm.trans (by omega)) (c82_9_28_0.trans (by omega)) (by first | assumption | omega | (subst_vars; omega)) (by omega)
        ·
          refine w_iconst gz_41_55 (by decide) ?_
          have c12 := c82_9_28_0
          exact w_bret gz_41_56 gm_41 (by omega) (by omega) (k0 (by omega))
  refine w_aload_n gz_41_0 rfl ?_
  refine v_getI (j := 6) gz_41_1 rfl is_82 rd_5 rfl (fun v13 ev13 pv13 qv13 => ?_)
  refine w_iconst gz_41_4 (by decide) ?_
  refine w_icne (t := 24) gz_41_5 rfl (fun u14 => ?_) (fun u14 => ?_)
  ·
    refine w_iconst gz_41_24 (by decide) ?_
    have c15 := cf
    exact w_bret gz_41_25 gm_41 (by omega) (by omega) (k0 (by omega))
  ·
    refine w_aload_n gz_41_8 rfl ?_
    refine v_getI (j := 5) gz_41_9 rfl is_82 rd_5 rfl (fun v16 ev16 pv16 qv16 => ?_)
    have zv16 := ev16.trans ek82_5.symm
    refine w_aload_n gz_41_12 rfl ?_
    refine v_getI (j := 7) gz_41_13 rfl is_82 rd_5 rfl (fun v17 ev17 pv17 qv17 => ?_)
    have zv17 := ev17.trans ek82_7.symm
    refine w_isub gz_41_16 ⟨by omega, by omega⟩ ?_
    refine w_aload3_n gz_41_17 rfl ?_
    refine w_slen (q := 177) sdec_18 s1 ?_
    have bd18 := my_sl_bd s1
    refine w_iceq (t := 26) gz_41_21 rfl (fun u19 => ?_) (fun u19 => ?_)
    ·
      refine w_iconst gz_41_26 (by decide) ?_
      refine w_istore_n (ls' := [(2, 82), (3, x1), (0, 0)]) gz_41_27 gm_41 rfl rfl rfl ?_
      exact J28_0 7 (0) (by omega) (by omega) (ev16.symm.trans (by omega)) (ev13.symm.trans (by omega)) (ev17.symm.trans (by omega)) (cf.trans (by omega)) (by first | assumption | omega | (subst_vars; omega)) (by omega)
    ·
      refine w_iconst gz_41_24 (by decide) ?_
      have c20 := cf
      exact w_bret gz_41_25 gm_41 (by omega) (by omega) (k0 (by omega))
theorem c_Reader_wallNumber_f0 {l : Launch} {rho : Nat → Int32} {d : Nat} {h : my_H} {Q : my_H → my_V → Prop} (cf : h 82 9 = 0) (k0 : ∀ (h' : my_H), my_fr [(5, 9)] h h' → 1 ≤ h' 82 9 → h' 82 9 ≤ 16004 → ((-1) ≠ -1 → 1 ≤ h' 2 (-1)) → Q h' (0, (-1))) (k1 : ∀ (h' : my_H) (y : Int), my_fr [(5, 9)] h h' → 0 ≤ y → y ≤ 2 → h' 82 6 = 2 → 0 ≤ h' 82 8 → h' 82 8 ≤ 2 → h' 82 9 = 0 → (y ≠ -1 → 1 ≤ h' 2 y) → Q h' (0, y)) : wp l rho (d + 2) 43 0 [(2, 82), (9, 0)] [] h Q := by
  refine w_aload_n gz_43_0 rfl ?_
  refine w_iconst gz_43_1 (by decide) ?_
  refine w_inv (k := 0) (as := [(0, 3)]) (r := []) (x := 82) (ls0 := [(2, 82), (0, 3)]) gz_43_2 gm_44 rfl is_82 rd_5 rfl rfl rfl rfl rfl ?_
  refine w_aload_n gz_44_0 rfl ?_
  refine v_getI (j := 6) gz_44_1 rfl is_82 rd_5 rfl (fun v1 ev1 pv1 qv1 => ?_)
  refine w_iconst gz_44_4 (by decide) ?_
  refine w_iceq (t := 15) gz_44_5 rfl (fun u2 => ?_) (fun u2 => ?_)
  ·
    refine w_aload_n gz_44_15 rfl ?_
    refine v_getI (j := 8) gz_44_16 rfl is_82 rd_5 rfl (fun v3 ev3 pv3 qv3 => ?_)
    refine w_iload_n gz_44_19 rfl ?_
    refine w_iclt (t := 30) gz_44_20 rfl (fun u4 => ?_) (fun u4 => ?_)
    ·
      refine w_aload_n gz_44_30 rfl ?_
      refine v_getI (j := 9) gz_44_31 rfl is_82 rd_5 rfl (fun v5 ev5 pv5 qv5 => ?_)
      have zv5 := ev5.trans cf
      refine w_ifne (t := 44) gz_44_34 rfl (fun u6 => by exfalso; omega) (fun u6 => ?_)
      refine w_aload_n gz_44_37 rfl ?_
      refine v_getI (j := 8) gz_44_38 rfl is_82 rd_5 rfl (fun v7 ev7 pv7 qv7 => ?_)
      have zv7 := ev7.trans ev3.symm
      refine w_goto (t := 45) gz_44_41 rfl ?_
      refine w_iret gz_44_45 gm_44 ?_
      show wp l rho (d + 2) 43 5 [(2, 82), (9, 0)] [(0, v7)] h Q
      refine w_istore_n (ls' := [(2, 82), (0, v7)]) gz_43_5 gm_43 rfl rfl rfl ?_
      refine w_iload_n gz_43_6 rfl ?_
      refine w_iconst gz_43_7 (by decide) ?_
      refine w_iceq (t := 29) gz_43_8 rfl (fun u8 => by exfalso; omega) (fun u8 => ?_)
      refine w_aload_n gz_43_11 rfl ?_
      refine w_getX (v := 1) gz_43_12 is_82 rd_5 rfl (by decide) rfl ?_
      refine w_iload_n gz_43_15 rfl ?_
      refine w_inv (k := 0) (as := [(0, v7)]) (r := []) (x := 1) (ls0 := [(2, 1), (0, v7)]) gz_43_16 gm_13 rfl is_1 rd_3 rfl rfl rfl rfl rfl ?_
      refine w_iload_n gz_13_0 rfl ?_
      refine w_iflt (t := 22) gz_13_1 rfl (fun u10 => by exfalso; omega) (fun u10 => ?_)
      refine w_iload_n gz_13_4 rfl ?_
      refine w_iconst gz_13_5 (by decide) ?_
      refine w_icge (t := 22) gz_13_6 rfl (fun u11 => by exfalso; omega) (fun u11 => ?_)
      refine w_aload_n gz_13_9 rfl ?_
      refine w_getX (v := 2) gz_13_10 is_1 rd_3 rfl (by decide) rfl ?_
      refine w_iload_n gz_13_13 rfl ?_
      refine w_iald gz_13_14 is_2 rd_25 (by omega) (by omega) (fun v13 ev13 pv13 qv13 => ?_)
      refine w_ifle (t := 22) gz_13_15 rfl (fun u14 => ?_) (fun u14 => ?_)
      ·
        refine w_iconst gz_13_22 (by decide) ?_
        refine w_bret gz_13_23 gm_13 (by omega) (by omega) ?_
        show wp l rho (d + 2) 43 19 [(2, 82), (0, v7)] [(0, 0)] h Q
        refine w_ifne (t := 29) gz_43_19 rfl (fun u15 => by exfalso; omega) (fun u15 => ?_)
        refine w_aload_n gz_43_22 rfl ?_
        refine w_iconst gz_43_23 (by decide) ?_
        refine w_inv (k := 0) (as := [(0, 2)]) (r := []) (x := 82) (ls0 := [(2, 82), (0, 2)]) gz_43_24 gm_42 rfl is_82 rd_5 rfl rfl rfl rfl rfl ?_
        refine w_aload_n gz_42_0 rfl ?_
        refine v_getI (j := 9) gz_42_1 rfl is_82 rd_5 rfl (fun v16 ev16 pv16 qv16 => ?_)
        have zv16 := ev16.trans ev5.symm
        refine w_ifne (t := 20) gz_42_4 rfl (fun u17 => by exfalso; omega) (fun u17 => ?_)
        refine w_aload_n gz_42_7 rfl ?_
        refine w_iload_n gz_42_8 rfl ?_
        refine w_bipush gz_42_9 (by decide) ?_
        refine w_aload_n gz_42_11 rfl ?_
        refine v_getI (j := 7) gz_42_12 rfl is_82 rd_5 rfl (fun v18 ev18 pv18 qv18 => ?_)
        refine w_imul gz_42_15 ⟨by omega, by omega⟩ ?_
        refine w_iadd gz_42_16 ⟨by omega, by omega⟩ ?_
        refine v_putI (j := 9) gz_42_17 rfl is_82 rd_5 rfl (by omega) (by omega) rfl (fun h19 fh19 => ?_)
        have gh19 : my_fr [(5, 9)] h h19 := my_fr.up my_fr.rf is_82 fh19 rfl
        refine w_vret gz_42_20 gm_42 ?_
        show wp l rho (d + 2) 43 27 [(2, 82), (0, v7)] [] h19 Q
        refine w_iconst gz_43_27 (by decide) ?_
        have c20 := (my_up_self fh19)
        exact w_iret gz_43_28 gm_43 (k0 h19 (gh19) (by omega) (by omega) (by first | omega | grind))
      ·
        refine w_iconst gz_13_18 (by decide) ?_
        refine w_goto (t := 23) gz_13_19 rfl ?_
        refine w_bret gz_13_23 gm_13 (by omega) (by omega) ?_
        show wp l rho (d + 2) 43 19 [(2, 82), (0, v7)] [(0, 1)] h Q
        refine w_ifne (t := 29) gz_43_19 rfl (fun u21 => ?_) (fun u21 => by exfalso; omega)
        refine w_iload_n gz_43_29 rfl ?_
        have c22 := ev1.symm
        have c23 := ev7.symm
        have c24 := ev5.symm
        exact w_iret gz_43_30 gm_43 (k1 h (v7) (my_fr.rf) (by omega) (by omega) (by omega) (by omega) (by omega) (by omega) (by first | omega | grind))
    ·
      refine w_aload_n gz_44_23 rfl ?_
      refine w_iconst gz_44_24 (by decide) ?_
      refine w_inv (k := 0) (as := [(0, 4)]) (r := []) (x := 82) (ls0 := [(2, 82), (0, 4)]) gz_44_25 gm_42 rfl is_82 rd_5 rfl rfl rfl rfl rfl ?_
      refine w_aload_n gz_42_0 rfl ?_
      refine v_getI (j := 9) gz_42_1 rfl is_82 rd_5 rfl (fun v25 ev25 pv25 qv25 => ?_)
      have zv25 := ev25.trans cf
      refine w_ifne (t := 20) gz_42_4 rfl (fun u26 => by exfalso; omega) (fun u26 => ?_)
      refine w_aload_n gz_42_7 rfl ?_
      refine w_iload_n gz_42_8 rfl ?_
      refine w_bipush gz_42_9 (by decide) ?_
      refine w_aload_n gz_42_11 rfl ?_
      refine v_getI (j := 7) gz_42_12 rfl is_82 rd_5 rfl (fun v27 ev27 pv27 qv27 => ?_)
      refine w_imul gz_42_15 ⟨by omega, by omega⟩ ?_
      refine w_iadd gz_42_16 ⟨by omega, by omega⟩ ?_
      refine v_putI (j := 9) gz_42_17 rfl is_82 rd_5 rfl (by omega) (by omega) rfl (fun h28 fh28 => ?_)
      have gh28 : my_fr [(5, 9)] h h28 := my_fr.up my_fr.rf is_82 fh28 rfl
      refine w_vret gz_42_20 gm_42 ?_
      show wp l rho (d + 1) 44 28 [(2, 82), (0, 3)] [] h28 _
      refine w_iconst gz_44_28 (by decide) ?_
      refine w_iret gz_44_29 gm_44 ?_
      show wp l rho (d + 2) 43 5 [(2, 82), (9, 0)] [(0, (-1))] h28 Q
      refine w_istore_n (ls' := [(2, 82), (0, (-1))]) gz_43_5 gm_43 rfl rfl rfl ?_
      refine w_iload_n gz_43_6 rfl ?_
      refine w_iconst gz_43_7 (by decide) ?_
      refine w_iceq (t := 29) gz_43_8 rfl (fun u29 => ?_) (fun u29 => by exfalso; omega)
      refine w_iload_n gz_43_29 rfl ?_
      have c30 := (my_up_self fh28)
      exact w_iret gz_43_30 gm_43 (k0 h28 (gh28) (by omega) (by omega) (by first | omega | grind))
  ·
    refine w_aload_n gz_44_8 rfl ?_
    refine w_iconst gz_44_9 (by decide) ?_
    refine w_inv (k := 0) (as := [(0, 1)]) (r := []) (x := 82) (ls0 := [(2, 82), (0, 1)]) gz_44_10 gm_42 rfl is_82 rd_5 rfl rfl rfl rfl rfl ?_
    refine w_aload_n gz_42_0 rfl ?_
    refine v_getI (j := 9) gz_42_1 rfl is_82 rd_5 rfl (fun v31 ev31 pv31 qv31 => ?_)
    have zv31 := ev31.trans cf
    refine w_ifne (t := 20) gz_42_4 rfl (fun u32 => by exfalso; omega) (fun u32 => ?_)
    refine w_aload_n gz_42_7 rfl ?_
    refine w_iload_n gz_42_8 rfl ?_
    refine w_bipush gz_42_9 (by decide) ?_
    refine w_aload_n gz_42_11 rfl ?_
    refine v_getI (j := 7) gz_42_12 rfl is_82 rd_5 rfl (fun v33 ev33 pv33 qv33 => ?_)
    refine w_imul gz_42_15 ⟨by omega, by omega⟩ ?_
    refine w_iadd gz_42_16 ⟨by omega, by omega⟩ ?_
    refine v_putI (j := 9) gz_42_17 rfl is_82 rd_5 rfl (by omega) (by omega) rfl (fun h34 fh34 => ?_)
    have gh34 : my_fr [(5, 9)] h h34 := my_fr.up my_fr.rf is_82 fh34 rfl
    refine w_vret gz_42_20 gm_42 ?_
    show wp l rho (d + 1) 44 13 [(2, 82), (0, 3)] [] h34 _
    refine w_iconst gz_44_13 (by decide) ?_
    refine w_iret gz_44_14 gm_44 ?_
    show wp l rho (d + 2) 43 5 [(2, 82), (9, 0)] [(0, (-1))] h34 Q
    refine w_istore_n (ls' := [(2, 82), (0, (-1))]) gz_43_5 gm_43 rfl rfl rfl ?_
    refine w_iload_n gz_43_6 rfl ?_
    refine w_iconst gz_43_7 (by decide) ?_
    refine w_iceq (t := 29) gz_43_8 rfl (fun u35 => ?_) (fun u35 => by exfalso; omega)
    refine w_iload_n gz_43_29 rfl ?_
    have c36 := (my_up_self fh34)
    exact w_iret gz_43_30 gm_43 (k0 h34 (gh34) (by omega) (by omega) (by first | omega | grind))
theorem c_Lens_startOnWall {l : Launch} {rho : Nat → Int32} {d : Nat} {h : my_H} {Q : my_H → my_V → Prop} {x0 x1 x2 : Int} (t0 : my_is 4 x0) (a1 : 0 ≤ x1) (b1 : x1 ≤ 2) (a2 : 0 ≤ x2) (b2 : x2 ≤ 4) (k0 : ∀ (h' : my_H), my_fr [(4, 1), (4, 2), (4, 3), (4, 4), (4, 5), (4, 6), (4, 7), (4, 8), (4, 9), (37, -1), (38, -1)] h h' → my_fx x0 8 h h' → h' x0 1 = (-1) → 0 ≤ h' x0 4 → h' x0 4 ≤ 4 → h' x0 5 = 0 → h' x0 7 = 0 → h' x0 8 = 0 → h' x0 9 = 0 → h' x0 1 = -1 → h' x0 3 = x2 → h' x0 4 = x2 → h' x0 9 = 0 → Q h' (9, 0)) : wp l rho (d + 1) 45 0 [(2, x0), (0, x1), (0, x2), (9, 0)] [] h Q := by
  have J49_0 : ∀ (n : Nat) (p49_0 p49_1 : Int) (h49_0 : my_H), my_fr [(4, 1), (4, 2), (4, 3), (4, 4), (4, 5), (4, 6), (4, 7), (4, 8), (4, 9), (37, -1), (38, -1)] h h49_0 → my_fx x0 8 h h49_0 → 0 ≤ p49_0 → p49_0 ≤ 4 → h49_0 x0 1 = (-1) → h49_0 x0 2 = x1 → h49_0 x0 3 = x2 → h49_0 x0 4 = x2 → h49_0 x0 5 = 0 → h49_0 x0 6 = p49_1 → h49_0 x0 7 = 0 → h49_0 x0 8 = 0 → h49_0 x0 9 = 0 → h49_0 x0 1 = -1 → h49_0 x0 3 = x2 → h49_0 x0 4 = x2 → h49_0 x0 9 = 0 → 5 - p49_0 ≤ (n : Int) → wp l rho (d + 1) 45 49 [(2, x0), (0, x1), (0, x2), (0, p49_0)] [] h49_0 Q := by
    intro n
    induction n with
    | zero => intro p49_0 p49_1 h49_0 gh_49_0 gx_49_0 q0_49_0 q1_49_0 ca0_1_49_0 ca0_2_49_0 ca0_3_49_0 ca0_4_49_0 ca0_5_49_0 ca0_6_49_0 ca0_7_49_0 ca0_8_49_0 ca0_9_49_0 w1_49_0 w3_49_0 w4_49_0 w9_49_0 hm_49_0; exfalso; omega
    | succ n ih_49_0 =>
      intro p49_0 p49_1 h49_0 gh_49_0 gx_49_0 q0_49_0 q1_49_0 ca0_1_49_0 ca0_2_49_0 ca0_3_49_0 ca0_4_49_0 ca0_5_49_0 ca0_6_49_0 ca0_7_49_0 ca0_8_49_0 ca0_9_49_0 w1_49_0 w3_49_0 w4_49_0 w9_49_0 hm_49_0
      refine w_iload_n gz_45_49 rfl ?_
      refine w_iconst gz_45_50 (by decide) ?_
      refine w_icge (t := 78) gz_45_51 rfl (fun u1 => ?_) (fun u1 => ?_)
      ·
        have ce2 : h49_0 x0 1 = (-1) := ca0_1_49_0
        have ce3 : h49_0 x0 3 = x2 := ca0_3_49_0
        have ce4 : h49_0 x0 4 = x2 := ca0_4_49_0
        have ce5 : h49_0 x0 9 = 0 := ca0_9_49_0
        have c6 := ca0_1_49_0
        have c7 := ca0_4_49_0
        have c8 := ca0_5_49_0
        have c9 := ca0_7_49_0
        have c10 := ca0_8_49_0
        have c11 := ca0_9_49_0
        exact w_vret gz_45_78 gm_45 (k0 h49_0 (gh_49_0) (gx_49_0) (by omega) (by omega) (by omega) (by omega) (by omega) (by omega) (by omega) (by first | assumption | omega | (subst_vars; omega)) (by first | assumption | omega | (subst_vars; omega)) (by first | assumption | omega | (subst_vars; omega)) (by first | assumption | omega | (subst_vars; omega)))
      ·
        refine w_aload_n gz_45_54 rfl ?_
        refine w_getX (v := (x0 + 7)) gz_45_55 t0 rd_4 rfl (by decide) rfl ?_
        refine w_iload_n gz_45_58 rfl ?_
        refine w_iconst gz_45_59 (by decide) ?_
        refine w_iast gz_45_60 (ix_4_7 t0) rd_38 (by omega) (by omega) (by omega) (by omega) (fun h13 fh13 => ?_)
        have gh13 : my_fr [(4, 1), (4, 2), (4, 3), (4, 4), (4, 5), (4, 6), (4, 7), (4, 8), (4, 9), (37, -1), (38, -1)] h h13 := my_fr.up gh_49_0 (ix_4_7 t0) fh13 rfl
        have gxh13 : my_fx x0 8 h h13 := my_fx.up gx_49_0 fh13 (by omega)
        refine w_aload_n gz_45_61 rfl ?_
        refine w_getX (v := (x0 + 6)) gz_45_62 t0 rd_4 rfl (by decide) rfl ?_
        refine w_iload_n gz_45_65 rfl ?_
        refine w_iload_n gz_45_66 rfl ?_
        refine w_iload_n gz_45_67 rfl ?_
        refine w_inS (k := 0) (as := [(0, p49_0), (0, x1)]) (r := [(0, p49_0), (2, (x0 + 6))]) (ls0 := [(0, x1), (0, p49_0)]) gz_45_68 gm_29 rfl rfl rfl rfl rfl rfl ?_
        refine w_iload_n gz_29_0 rfl ?_
        refine w_iconst gz_29_1 (by decide) ?_
        refine w_imul gz_29_2 ⟨by omega, by omega⟩ ?_
        refine w_iload_n gz_29_3 rfl ?_
        refine w_iadd gz_29_4 ⟨by omega, by omega⟩ ?_
        refine w_iret gz_29_5 gm_29 ?_
        show wp l rho (d + 1) 45 71 [(2, x0), (0, x1), (0, x2), (0, p49_0)] [(0, ((x1 * 4) + p49_0)), (0, p49_0), (2, (x0 + 6))] h13 Q
        refine w_iast gz_45_71 (ix_4_6 t0) rd_37 (by omega) (by omega) (by omega) (by omega) (fun h15 fh15 => ?_)
        have gh15 : my_fr [(4, 1), (4, 2), (4, 3), (4, 4), (4, 5), (4, 6), (4, 7), (4, 8), (4, 9), (37, -1), (38, -1)] h h15 := my_fr.up gh13 (ix_4_6 t0) fh15 rfl
        have gxh15 : my_fx x0 8 h h15 := my_fx.up gxh13 fh15 (by omega)
        refine w_iinc (ls' := [(2, x0), (0, x1), (0, x2), (0, (p49_0 + 1))]) gz_45_72 rfl gm_45 rfl rfl rfl ⟨by omega, by omega⟩ ?_
        refine w_goto (t := 49) gz_45_75 rfl ?_
        have ce16 : h15 x0 1 = (-1) := ((my_up_role fh15 t0 (ix_4_6 t0) rfl).trans ((my_up_role fh13 t0 (ix_4_7 t0) rfl).trans ca0_1_49_0))
        have ce17 : h15 x0 3 = x2 := ((my_up_role fh15 t0 (ix_4_6 t0) rfl).trans ((my_up_role fh13 t0 (ix_4_7 t0) rfl).trans ca0_3_49_0))
        have ce18 : h15 x0 4 = x2 := ((my_up_role fh15 t0 (ix_4_6 t0) rfl).trans ((my_up_role fh13 t0 (ix_4_7 t0) rfl).trans ca0_4_49_0))
        have ce19 : h15 x0 9 = 0 := ((my_up_role fh15 t0 (ix_4_6 t0) rfl).trans ((my_up_role fh13 t0 (ix_4_7 t0) rfl).trans ca0_9_49_0))
        exact ih_49_0 ((p49_0 + 1)) (p49_1) h15 (gh15) (gxh15) (by omega) (by omega) (((my_up_role fh15 t0 (ix_4_6 t0) rfl).trans ((my_up_role fh13 t0 (ix_4_7 t0) rfl).trans ca0_1_49_0)).trans (by omega)) (((my_up_role fh15 t0 (ix_4_6 t0) rfl).trans ((my_up_role fh13 t0 (ix_4_7 t0) rfl).trans ca0_2_49_0)).trans (by omega)) (((my_up_role fh15 t0 (ix_4_6 t0) rfl).trans ((my_up_role fh13 t0 (ix_4_7 t0) rfl).trans ca0_3_49_0)).trans (by omega)) (((my_up_role fh15 t0 (ix_4_6 t0) rfl).trans ((my_up_role fh13 t0 (ix_4_7 t0) rfl).trans ca0_4_49_0)).trans (by omega)) (((my_up_role fh15 t0 (ix_4_6 t0) rfl).trans ((my_up_role fh13 t0 (ix_4_7 t0) rfl).trans ca0_5_49_0)).trans (by omega)) (((my_up_role fh15 t0 (ix_4_6 t0) rfl).trans ((my_up_role fh13 t0 (ix_4_7 t0) rfl).trans ca0_6_49_0)).trans (by omega)) (((my_up_role fh15 t0 (ix_4_6 t0) rfl).trans ((my_up_role fh13 t0 (ix_4_7 t0) rfl).trans ca0_7_49_0)).trans (by omega)) (((my_up_role fh15 t0 (ix_4_6 t0) rfl).trans ((my_up_role fh13 t0 (ix_4_7 t0) rfl).trans ca0_8_49_0)).trans (by omega)) (((my_up_role fh15 t0 (ix_4_6 t0) rfl).trans ((my_up_role fh13 t0 (ix_4_7 t0) rfl).trans ca0_9_49_0)).trans (by omega)) (by first | assumption | omega | (subst_vars; omega)) (by first | assumption | omega | (subst_vars; omega)) (by first | assumption | omega | (subst_vars; omega)) (by first | assumption | omega | (subst_vars; omega)) (by omega)
  refine w_aload_n gz_45_0 rfl ?_
  refine w_iconst gz_45_1 (by decide) ?_
  refine v_putI (j := 1) gz_45_2 rfl t0 rd_4 rfl (by omega) (by omega) rfl (fun h20 fh20 => ?_)
  have gh20 : my_fr [(4, 1), (4, 2), (4, 3), (4, 4), (4, 5), (4, 6), (4, 7), (4, 8), (4, 9), (37, -1), (38, -1)] h h20 := my_fr.up my_fr.rf t0 fh20 rfl
  have gxh20 : my_fx x0 8 h h20 := my_fx.up my_fx.rf fh20 (by omega)
  refine w_aload_n gz_45_5 rfl ?_
  refine w_iload_n gz_45_6 rfl ?_
  refine v_putI (j := 2) gz_45_7 rfl t0 rd_4 rfl (by omega) (by omega) rfl (fun h21 fh21 => ?_)
  have gh21 : my_fr [(4, 1), (4, 2), (4, 3), (4, 4), (4, 5), (4, 6), (4, 7), (4, 8), (4, 9), (37, -1), (38, -1)] h h21 := my_fr.up gh20 t0 fh21 rfl
  have gxh21 : my_fx x0 8 h h21 := my_fx.up gxh20 fh21 (by omega)
  refine w_aload_n gz_45_10 rfl ?_
  refine w_iload_n gz_45_11 rfl ?_
  refine v_putI (j := 3) gz_45_12 rfl t0 rd_4 rfl (by omega) (by omega) rfl (fun h22 fh22 => ?_)
  have gh22 : my_fr [(4, 1), (4, 2), (4, 3), (4, 4), (4, 5), (4, 6), (4, 7), (4, 8), (4, 9), (37, -1), (38, -1)] h h22 := my_fr.up gh21 t0 fh22 rfl
  have gxh22 : my_fx x0 8 h h22 := my_fx.up gxh21 fh22 (by omega)
  refine w_aload_n gz_45_15 rfl ?_
  refine w_iload_n gz_45_16 rfl ?_
  refine v_putI (j := 4) gz_45_17 rfl t0 rd_4 rfl (by omega) (by omega) rfl (fun h23 fh23 => ?_)
  have gh23 : my_fr [(4, 1), (4, 2), (4, 3), (4, 4), (4, 5), (4, 6), (4, 7), (4, 8), (4, 9), (37, -1), (38, -1)] h h23 := my_fr.up gh22 t0 fh23 rfl
  have gxh23 : my_fx x0 8 h h23 := my_fx.up gxh22 fh23 (by omega)
  refine w_aload_n gz_45_20 rfl ?_
  refine w_iconst gz_45_21 (by decide) ?_
  refine v_putA (j := 5) gz_45_22 rfl t0 rd_4 rfl rfl (fun h24 fh24 => ?_)
  have gh24 : my_fr [(4, 1), (4, 2), (4, 3), (4, 4), (4, 5), (4, 6), (4, 7), (4, 8), (4, 9), (37, -1), (38, -1)] h h24 := my_fr.up gh23 t0 fh24 rfl
  have gxh24 : my_fx x0 8 h h24 := my_fx.up gxh23 fh24 (by omega)
  refine w_aload_n gz_45_25 rfl ?_
  refine w_iconst gz_45_26 (by decide) ?_
  refine w_iload_n gz_45_27 rfl ?_
  refine w_ianyL gz_45_28 (fun v25 pv25 qv25 => ?_)
  refine v_putA (j := 6) gz_45_29 rfl t0 rd_4 rfl rfl (fun h26 fh26 => ?_)
  have gh26 : my_fr [(4, 1), (4, 2), (4, 3), (4, 4), (4, 5), (4, 6), (4, 7), (4, 8), (4, 9), (37, -1), (38, -1)] h h26 := my_fr.up gh24 t0 fh26 rfl
  have gxh26 : my_fx x0 8 h h26 := my_fx.up gxh24 fh26 (by omega)
  refine w_aload_n gz_45_32 rfl ?_
  refine w_iconst gz_45_33 (by decide) ?_
  refine v_putB (j := 7) gz_45_34 rfl t0 rd_4 rfl (by omega) (by omega) rfl (fun h27 fh27 => ?_)
  have gh27 : my_fr [(4, 1), (4, 2), (4, 3), (4, 4), (4, 5), (4, 6), (4, 7), (4, 8), (4, 9), (37, -1), (38, -1)] h h27 := my_fr.up gh26 t0 fh27 rfl
  have gxh27 : my_fx x0 8 h h27 := my_fx.up gxh26 fh27 (by omega)
  refine w_aload_n gz_45_37 rfl ?_
  refine w_iconst gz_45_38 (by decide) ?_
  refine v_putA (j := 8) gz_45_39 rfl t0 rd_4 rfl rfl (fun h28 fh28 => ?_)
  have gh28 : my_fr [(4, 1), (4, 2), (4, 3), (4, 4), (4, 5), (4, 6), (4, 7), (4, 8), (4, 9), (37, -1), (38, -1)] h h28 := my_fr.up gh27 t0 fh28 rfl
  have gxh28 : my_fx x0 8 h h28 := my_fx.up gxh27 fh28 (by omega)
  refine w_aload_n gz_45_42 rfl ?_
  refine w_iconst gz_45_43 (by decide) ?_
  refine v_putI (j := 9) gz_45_44 rfl t0 rd_4 rfl (by omega) (by omega) rfl (fun h29 fh29 => ?_)
  have gh29 : my_fr [(4, 1), (4, 2), (4, 3), (4, 4), (4, 5), (4, 6), (4, 7), (4, 8), (4, 9), (37, -1), (38, -1)] h h29 := my_fr.up gh28 t0 fh29 rfl
  have gxh29 : my_fx x0 8 h h29 := my_fx.up gxh28 fh29 (by omega)
  refine w_iconst gz_45_47 (by decide) ?_
  refine w_istore_n (ls' := [(2, x0), (0, x1), (0, x2), (0, 0)]) gz_45_48 gm_45 rfl rfl rfl ?_
  have ce30 : h29 x0 1 = (-1) := ((my_up_fld fh29 (by decide)).trans ((my_up_fld fh28 (by decide)).trans ((my_up_fld fh27 (by decide)).trans ((my_up_fld fh26 (by decide)).trans ((my_up_fld fh24 (by decide)).trans ((my_up_fld fh23 (by decide)).trans ((my_up_fld fh22 (by decide)).trans ((my_up_fld fh21 (by decide)).trans (my_up_self fh20)))))))))
  have ce31 : h29 x0 3 = x2 := ((my_up_fld fh29 (by decide)).trans ((my_up_fld fh28 (by decide)).trans ((my_up_fld fh27 (by decide)).trans ((my_up_fld fh26 (by decide)).trans ((my_up_fld fh24 (by decide)).trans ((my_up_fld fh23 (by decide)).trans (my_up_self fh22)))))))
  have ce32 : h29 x0 4 = x2 := ((my_up_fld fh29 (by decide)).trans ((my_up_fld fh28 (by decide)).trans ((my_up_fld fh27 (by decide)).trans ((my_up_fld fh26 (by decide)).trans ((my_up_fld fh24 (by decide)).trans (my_up_self fh23))))))
  have ce33 : h29 x0 9 = 0 := (my_up_self fh29)
  exact J49_0 5 (0) (v25) h29 (gh29) (gxh29) (by omega) (by omega) (((my_up_fld fh29 (by decide)).trans ((my_up_fld fh28 (by decide)).trans ((my_up_fld fh27 (by decide)).trans ((my_up_fld fh26 (by decide)).trans ((my_up_fld fh24 (by decide)).trans ((my_up_fld fh23 (by decide)).trans ((my_up_fld fh22 (by decide)).trans ((my_up_fld fh21 (by decide)).trans (my_up_self fh20))))))))).trans (by omega)) (((my_up_fld fh29 (by decide)).trans ((my_up_fld fh28 (by decide)).trans ((my_up_fld fh27 (by decide)).trans ((my_up_fld fh26 (by decide)).trans ((my_up_fld fh24 (by decide)).trans ((my_up_fld fh23 (by decide)).trans ((my_up_fld fh22 (by decide)).trans (my_up_self fh21)))))))).trans (by omega)) (((my_up_fld fh29 (by decide)).trans ((my_up_fld fh28 (by decide)).trans ((my_up_fld fh27 (by decide)).trans ((my_up_fld fh26 (by decide)).trans ((my_up_fld fh24 (by decide)).trans ((my_up_fld fh23 (by decide)).trans (my_up_self fh22))))))).trans (by omega)) (((my_up_fld fh29 (by decide)).trans ((my_up_fld fh28 (by decide)).trans ((my_up_fld fh27 (by decide)).trans ((my_up_fld fh26 (by decide)).trans ((my_up_fld fh24 (by decide)).trans (my_up_self fh23)))))).trans (by omega)) (((my_up_fld fh29 (by decide)).trans ((my_up_fld fh28 (by decide)).trans ((my_up_fld fh27 (by decide)).trans ((my_up_fld fh26 (by decide)).trans (my_up_self fh24))))).trans (by omega)) (((my_up_fld fh29 (by decide)).trans ((my_up_fld fh28 (by decide)).trans ((my_up_fld fh27 (by decide)).trans (my_up_self fh26)))).trans (by omega)) (((my_up_fld fh29 (by decide)).trans ((my_up_fld fh28 (by decide)).trans (my_up_self fh27))).trans (by omega)) (((my_up_fld fh29 (by decide)).trans (my_up_self fh28)).trans (by omega)) ((my_up_self fh29).trans (by omega)) (by first | assumption | omega | (subst_vars; omega)) (by first | assumption | omega | (subst_vars; omega)) (by first | assumption | omega | (subst_vars; omega)) (by first | assumption | omega | (subst_vars; omega)) (by omega)
theorem c_Reader_endsHere_f0 {l : Launch} {rho : Nat → Int32} {d : Nat} {h : my_H} {Q : my_H → my_V → Prop} (cf : h 82 9 = 0) (k0 : ∀ (h' : my_H), my_fr [(5, 5), (5, 6), (5, 7), (5, 8), (5, 9)] h h' → 1 ≤ h' 82 9 → h' 82 9 ≤ 16001 → Q h' (0, 0)) (k1 : ∀ (h' : my_H), my_fr [(5, 5), (5, 6), (5, 7), (5, 8), (5, 9)] h h' → h' 82 9 = 0 → Q h' (0, 1)) : wp l rho (d + 2) 47 0 [(2, 82)] [] h Q := by
  refine w_aload_n gz_47_0 rfl ?_
  refine v_getI (j := 6) gz_47_1 rfl is_82 rd_5 rfl (fun v1 ev1 pv1 qv1 => ?_)
  refine w_iconst gz_47_4 (by decide) ?_
  refine w_iceq (t := 15) gz_47_5 rfl (fun u2 => ?_) (fun u2 => ?_)
  ·
    refine w_aload_n gz_47_15 rfl ?_
    refine w_inv (k := 2) (as := []) (r := []) (x := 82) (ls0 := [(2, 82), (9, 0), (9, 0)]) gz_47_16 gm_37 rfl is_82 rd_5 rfl rfl rfl rfl rfl (c_Reader_nextToken_f0 (d := d)  (cf.trans (by omega)) (fun h3 frh3 w4 w5 w6 => ?_))
    have gh3 : my_fr [(5, 5), (5, 6), (5, 7), (5, 8), (5, 9)] h h3 := my_fr.tr my_fr.rf (frh3.mo rfl)
    show wp l rho (d + 2) 47 19 [(2, 82)] [] h3 Q
    refine w_iconst gz_47_19 (by decide) ?_
    have c7 := ((my_fr.at frh3 is_82 rfl).trans cf)
    exact w_bret gz_47_20 gm_47 (by omega) (by omega) (k1 h3 (gh3) (by omega))
  ·
    refine w_aload_n gz_47_8 rfl ?_
    refine w_iconst gz_47_9 (by decide) ?_
    refine w_inv (k := 0) (as := [(0, 1)]) (r := []) (x := 82) (ls0 := [(2, 82), (0, 1)]) gz_47_10 gm_42 rfl is_82 rd_5 rfl rfl rfl rfl rfl ?_
    refine w_aload_n gz_42_0 rfl ?_
    refine v_getI (j := 9) gz_42_1 rfl is_82 rd_5 rfl (fun v8 ev8 pv8 qv8 => ?_)
    have zv8 := ev8.trans cf
    refine w_ifne (t := 20) gz_42_4 rfl (fun u9 => by exfalso; omega) (fun u9 => ?_)
    refine w_aload_n gz_42_7 rfl ?_
    refine w_iload_n gz_42_8 rfl ?_
    refine w_bipush gz_42_9 (by decide) ?_
    refine w_aload_n gz_42_11 rfl ?_
    refine v_getI (j := 7) gz_42_12 rfl is_82 rd_5 rfl (fun v10 ev10 pv10 qv10 => ?_)
    refine w_imul gz_42_15 ⟨by omega, by omega⟩ ?_
    refine w_iadd gz_42_16 ⟨by omega, by omega⟩ ?_
    refine v_putI (j := 9) gz_42_17 rfl is_82 rd_5 rfl (by omega) (by omega) rfl (fun h11 fh11 => ?_)
    have gh11 : my_fr [(5, 5), (5, 6), (5, 7), (5, 8), (5, 9)] h h11 := my_fr.up my_fr.rf is_82 fh11 rfl
    refine w_vret gz_42_20 gm_42 ?_
    show wp l rho (d + 2) 47 13 [(2, 82)] [] h11 Q
    refine w_iconst gz_47_13 (by decide) ?_
    have c12 := (my_up_self fh11)
    exact w_bret gz_47_14 gm_47 (by omega) (by omega) (k0 h11 (gh11) (by omega) (by omega))
theorem c_Lens_startOnWindow {l : Launch} {rho : Nat → Int32} {d : Nat} {h : my_H} {Q : my_H → my_V → Prop} {x0 x1 x2 : Int} (t0 : my_is 4 x0) (a1 : 0 ≤ x1) (b1 : x1 ≤ 4) (t2 : my_is 4 x2) (hne : x2 < x0 ∨ x0 + 8 < x2) (k0 : ∀ (h' : my_H), my_fr [(4, 1), (4, 2), (4, 3), (4, 4), (4, 5), (4, 6), (4, 7), (4, 8), (4, 9), (37, -1), (38, -1)] h h' → my_fx x0 8 h h' → 0 ≤ h' x0 1 → h' x0 1 ≤ 4 → h' x0 9 = 0 → h' x0 1 = x1 → h' x0 3 = h x2 3 → h' x0 4 = h x2 4 → h' x0 9 = 0 → Q h' (9, 0)) : wp l rho (d + 1) 48 0 [(2, x0), (0, x1), (2, x2)] [] h Q := by
  refine v_know (x := x2) (j := 3) (b := 3) rfl t2 rd_4 rfl (fun ka2_3 eka2_3 pka2_3 qka2_3 => ?_)
  refine v_know (x := x2) (j := 4) (b := 4) rfl t2 rd_4 rfl (fun ka2_4 eka2_4 pka2_4 qka2_4 => ?_)
  refine w_aload_n gz_48_0 rfl ?_
  refine w_iload_n gz_48_1 rfl ?_
  refine v_putI (j := 1) gz_48_2 rfl t0 rd_4 rfl (by omega) (by omega) rfl (fun h1 fh1 => ?_)
  have gh1 : my_fr [(4, 1), (4, 2), (4, 3), (4, 4), (4, 5), (4, 6), (4, 7), (4, 8), (4, 9), (37, -1), (38, -1)] h h1 := my_fr.up my_fr.rf t0 fh1 rfl
  have gxh1 : my_fx x0 8 h h1 := my_fx.up my_fx.rf fh1 (by omega)
  refine w_aload_n gz_48_5 rfl ?_
  refine w_aload_n gz_48_6 rfl ?_
  refine v_getI (j := 2) gz_48_7 rfl t2 rd_4 rfl (fun v2 ev2 pv2 qv2 => ?_)
  refine v_putI (j := 2) gz_48_10 rfl t0 rd_4 rfl (by omega) (by omega) rfl (fun h3 fh3 => ?_)
  have gh3 : my_fr [(4, 1), (4, 2), (4, 3), (4, 4), (4, 5), (4, 6), (4, 7), (4, 8), (4, 9), (37, -1), (38, -1)] h h3 := my_fr.up gh1 t0 fh3 rfl
  have gxh3 : my_fx x0 8 h h3 := my_fx.up gxh1 fh3 (by omega)
  refine w_aload_n gz_48_13 rfl ?_
  refine w_aload_n gz_48_14 rfl ?_
  refine v_getI (j := 3) gz_48_15 rfl t2 rd_4 rfl (fun v4 ev4 pv4 qv4 => ?_)
  have zv4 := ev4.trans ((my_up_fld fh3 (by decide)).trans ((my_up_fld fh1 (by decide)).trans eka2_3.symm))
  refine v_putI (j := 3) gz_48_18 rfl t0 rd_4 rfl (by omega) (by omega) rfl (fun h5 fh5 => ?_)
  have gh5 : my_fr [(4, 1), (4, 2), (4, 3), (4, 4), (4, 5), (4, 6), (4, 7), (4, 8), (4, 9), (37, -1), (38, -1)] h h5 := my_fr.up gh3 t0 fh5 rfl
  have gxh5 : my_fx x0 8 h h5 := my_fx.up gxh3 fh5 (by omega)
  refine w_aload_n gz_48_21 rfl ?_
  refine w_aload_n gz_48_22 rfl ?_
  refine v_getI (j := 4) gz_48_23 rfl t2 rd_4 rfl (fun v6 ev6 pv6 qv6 => ?_)
  have zv6 := ev6.trans ((my_up_fld fh5 (by decide)).trans ((my_up_fld fh3 (by decide)).trans ((my_up_fld fh1 (by decide)).trans eka2_4.symm)))
  refine v_putI (j := 4) gz_48_26 rfl t0 rd_4 rfl (by omega) (by omega) rfl (fun h7 fh7 => ?_)
  have gh7 : my_fr [(4, 1), (4, 2), (4, 3), (4, 4), (4, 5), (4, 6), (4, 7), (4, 8), (4, 9), (37, -1), (38, -1)] h h7 := my_fr.up gh5 t0 fh7 rfl
  have gxh7 : my_fx x0 8 h h7 := my_fx.up gxh5 fh7 (by omega)
  refine w_aload_n gz_48_29 rfl ?_
  refine w_aload_n gz_48_30 rfl ?_
  refine v_getI (j := 5) gz_48_31 rfl t2 rd_4 rfl (fun v8 ev8 pv8 qv8 => ?_)
  refine v_putA (j := 5) gz_48_34 rfl t0 rd_4 rfl rfl (fun h9 fh9 => ?_)
  have gh9 : my_fr [(4, 1), (4, 2), (4, 3), (4, 4), (4, 5), (4, 6), (4, 7), (4, 8), (4, 9), (37, -1), (38, -1)] h h9 := my_fr.up gh7 t0 fh9 rfl
  have gxh9 : my_fx x0 8 h h9 := my_fx.up gxh7 fh9 (by omega)
  refine w_aload_n gz_48_37 rfl ?_
  refine w_aload_n gz_48_38 rfl ?_
  refine v_getI (j := 6) gz_48_39 rfl t2 rd_4 rfl (fun v10 ev10 pv10 qv10 => ?_)
  refine v_putA (j := 6) gz_48_42 rfl t0 rd_4 rfl rfl (fun h11 fh11 => ?_)
  have gh11 : my_fr [(4, 1), (4, 2), (4, 3), (4, 4), (4, 5), (4, 6), (4, 7), (4, 8), (4, 9), (37, -1), (38, -1)] h h11 := my_fr.up gh9 t0 fh11 rfl
  have gxh11 : my_fx x0 8 h h11 := my_fx.up gxh9 fh11 (by omega)
  refine w_aload_n gz_48_45 rfl ?_
  refine w_aload_n gz_48_46 rfl ?_
  refine v_getI (j := 7) gz_48_47 rfl t2 rd_4 rfl (fun v12 ev12 pv12 qv12 => ?_)
  refine v_putB (j := 7) gz_48_50 rfl t0 rd_4 rfl (by omega) (by omega) rfl (fun h13 fh13 => ?_)
  have gh13 : my_fr [(4, 1), (4, 2), (4, 3), (4, 4), (4, 5), (4, 6), (4, 7), (4, 8), (4, 9), (37, -1), (38, -1)] h h13 := my_fr.up gh11 t0 fh13 rfl
  have gxh13 : my_fx x0 8 h h13 := my_fx.up gxh11 fh13 (by omega)
  refine w_aload_n gz_48_53 rfl ?_
  refine w_aload_n gz_48_54 rfl ?_
  refine v_getI (j := 8) gz_48_55 rfl t2 rd_4 rfl (fun v14 ev14 pv14 qv14 => ?_)
  refine v_putA (j := 8) gz_48_58 rfl t0 rd_4 rfl rfl (fun h15 fh15 => ?_)
  have gh15 : my_fr [(4, 1), (4, 2), (4, 3), (4, 4), (4, 5), (4, 6), (4, 7), (4, 8), (4, 9), (37, -1), (38, -1)] h h15 := my_fr.up gh13 t0 fh15 rfl
  have gxh15 : my_fx x0 8 h h15 := my_fx.up gxh13 fh15 (by omega)
  refine w_aload_n gz_48_61 rfl ?_
  refine w_iconst gz_48_62 (by decide) ?_
  refine v_putI (j := 9) gz_48_63 rfl t0 rd_4 rfl (by omega) (by omega) rfl (fun h16 fh16 => ?_)
  have gh16 : my_fr [(4, 1), (4, 2), (4, 3), (4, 4), (4, 5), (4, 6), (4, 7), (4, 8), (4, 9), (37, -1), (38, -1)] h h16 := my_fr.up gh15 t0 fh16 rfl
  have gxh16 : my_fx x0 8 h h16 := my_fx.up gxh15 fh16 (by omega)
  refine w_aload_n gz_48_66 rfl ?_
  refine w_getX (v := (x2 + 7)) gz_48_67 t2 rd_4 rfl (by decide) rfl ?_
  refine w_iconst gz_48_70 (by decide) ?_
  refine w_aload_n gz_48_71 rfl ?_
  refine w_getX (v := (x0 + 7)) gz_48_72 t0 rd_4 rfl (by decide) rfl ?_
  refine w_iconst gz_48_75 (by decide) ?_
  refine w_iconst gz_48_76 (by decide) ?_
  refine w_cpU gz_48_77 (ix_4_7 t2) rd_38 (ix_4_7 t0) rd_38 (by omega) (by omega) (by omega) (by omega) (by omega) rfl (by decide) (by decide) (fun h19 fh19 => ?_)
  have gh19 : my_fr [(4, 1), (4, 2), (4, 3), (4, 4), (4, 5), (4, 6), (4, 7), (4, 8), (4, 9), (37, -1), (38, -1)] h h19 := my_fr.cp gh16 (ix_4_7 t0) fh19 rfl
  have gxh19 : my_fx x0 8 h h19 := my_fx.cp gxh16 fh19 (by omega)
  refine w_aload_n gz_48_80 rfl ?_
  refine w_getX (v := (x2 + 6)) gz_48_81 t2 rd_4 rfl (by decide) rfl ?_
  refine w_iconst gz_48_84 (by decide) ?_
  refine w_aload_n gz_48_85 rfl ?_
  refine w_getX (v := (x0 + 6)) gz_48_86 t0 rd_4 rfl (by decide) rfl ?_
  refine w_iconst gz_48_89 (by decide) ?_
  refine w_bipush gz_48_90 (by decide) ?_
  refine w_cpU gz_48_92 (ix_4_6 t2) rd_37 (ix_4_6 t0) rd_37 (by omega) (by omega) (by omega) (by omega) (by omega) rfl (by decide) (by decide) (fun h22 fh22 => ?_)
  have gh22 : my_fr [(4, 1), (4, 2), (4, 3), (4, 4), (4, 5), (4, 6), (4, 7), (4, 8), (4, 9), (37, -1), (38, -1)] h h22 := my_fr.cp gh19 (ix_4_6 t0) fh22 rfl
  have gxh22 : my_fx x0 8 h h22 := my_fx.cp gxh19 fh22 (by omega)
  have ce23 : h22 x0 1 = x1 := ((my_cp_role fh22 t0 (ix_4_6 t0) rfl).trans ((my_cp_role fh19 t0 (ix_4_7 t0) rfl).trans ((my_up_fld fh16 (by decide)).trans ((my_up_fld fh15 (by decide)).trans ((my_up_fld fh13 (by decide)).trans ((my_up_fld fh11 (by decide)).trans ((my_up_fld fh9 (by decide)).trans ((my_up_fld fh7 (by decide)).trans ((my_up_fld fh5 (by decide)).trans ((my_up_fld fh3 (by decide)).trans (my_up_self fh1)))))))))))
  have ce24 : h22 x0 3 = v4 := ((my_cp_role fh22 t0 (ix_4_6 t0) rfl).trans ((my_cp_role fh19 t0 (ix_4_7 t0) rfl).trans ((my_up_fld fh16 (by decide)).trans ((my_up_fld fh15 (by decide)).trans ((my_up_fld fh13 (by decide)).trans ((my_up_fld fh11 (by decide)).trans ((my_up_fld fh9 (by decide)).trans ((my_up_fld fh7 (by decide)).trans (my_up_self fh5)))))))))
  have ce25 : h22 x0 4 = v6 := ((my_cp_role fh22 t0 (ix_4_6 t0) rfl).trans ((my_cp_role fh19 t0 (ix_4_7 t0) rfl).trans ((my_up_fld fh16 (by decide)).trans ((my_up_fld fh15 (by decide)).trans ((my_up_fld fh13 (by decide)).trans ((my_up_fld fh11 (by decide)).trans ((my_up_fld fh9 (by decide)).trans (my_up_self fh7))))))))
  have ce26 : h22 x0 9 = 0 := ((my_cp_role fh22 t0 (ix_4_6 t0) rfl).trans ((my_cp_role fh19 t0 (ix_4_7 t0) rfl).trans (my_up_self fh16)))
  have c27 := ((my_cp_role fh22 t0 (ix_4_6 t0) rfl).trans ((my_cp_role fh19 t0 (ix_4_7 t0) rfl).trans ((my_up_fld fh16 (by decide)).trans ((my_up_fld fh15 (by decide)).trans ((my_up_fld fh13 (by decide)).trans ((my_up_fld fh11 (by decide)).trans ((my_up_fld fh9 (by decide)).trans ((my_up_fld fh7 (by decide)).trans ((my_up_fld fh5 (by decide)).trans ((my_up_fld fh3 (by decide)).trans (my_up_self fh1)))))))))))
  have c28 := ((my_cp_role fh22 t0 (ix_4_6 t0) rfl).trans ((my_cp_role fh19 t0 (ix_4_7 t0) rfl).trans (my_up_self fh16)))
  exact w_vret gz_48_95 gm_48 (k0 h22 (gh22) (gxh22) (by omega) (by omega) (by omega) (by first | assumption | omega | (subst_vars; omega)) (by first | assumption | omega | (subst_vars; omega)) (by first | assumption | omega | (subst_vars; omega)) (by first | assumption | omega | (subst_vars; omega)))
theorem c_Reader_takeNumber_f0 {l : Launch} {rho : Nat → Int32} {d : Nat} {h : my_H} {Q : my_H → my_V → Prop} {x1 : Int} (a1 : 0 ≤ x1) (b1 : x1 ≤ 200) (cf : h 82 9 = 0) (k0 : ∀ (h' : my_H), my_fr [(5, 5), (5, 6), (5, 7), (5, 8), (5, 9)] h h' → 1 ≤ h' 82 9 → h' 82 9 ≤ 16004 → Q h' (0, (-1))) (k1 : ∀ (h' : my_H) (y : Int), my_fr [(5, 5), (5, 6), (5, 7), (5, 8), (5, 9)] h h' → 0 ≤ y → y ≤ 199 → y ≤ (x1 - 1) → 1 ≤ x1 → h' 82 9 = 0 → Q h' (0, y)) : wp l rho (d + 2) 51 0 [(2, 82), (0, x1), (9, 0)] [] h Q := by
  refine w_aload_n gz_51_0 rfl ?_
  refine w_iload_n gz_51_1 rfl ?_
  refine w_inv (k := 0) (as := [(0, x1)]) (r := []) (x := 82) (ls0 := [(2, 82), (0, x1)]) gz_51_2 gm_44 rfl is_82 rd_5 rfl rfl rfl rfl rfl ?_
  refine w_aload_n gz_44_0 rfl ?_
  refine v_getI (j := 6) gz_44_1 rfl is_82 rd_5 rfl (fun v1 ev1 pv1 qv1 => ?_)
  refine w_iconst gz_44_4 (by decide) ?_
  refine w_iceq (t := 15) gz_44_5 rfl (fun u2 => ?_) (fun u2 => ?_)
  ·
    refine w_aload_n gz_44_15 rfl ?_
    refine v_getI (j := 8) gz_44_16 rfl is_82 rd_5 rfl (fun v3 ev3 pv3 qv3 => ?_)
    refine w_iload_n gz_44_19 rfl ?_
    refine w_iclt (t := 30) gz_44_20 rfl (fun u4 => ?_) (fun u4 => ?_)
    ·
      refine w_aload_n gz_44_30 rfl ?_
      refine v_getI (j := 9) gz_44_31 rfl is_82 rd_5 rfl (fun v5 ev5 pv5 qv5 => ?_)
      have zv5 := ev5.trans cf
      refine w_ifne (t := 44) gz_44_34 rfl (fun u6 => by exfalso; omega) (fun u6 => ?_)
      refine w_aload_n gz_44_37 rfl ?_
      refine v_getI (j := 8) gz_44_38 rfl is_82 rd_5 rfl (fun v7 ev7 pv7 qv7 => ?_)
      have zv7 := ev7.trans ev3.symm
      refine w_goto (t := 45) gz_44_41 rfl ?_
      refine w_iret gz_44_45 gm_44 ?_
      show wp l rho (d + 2) 51 5 [(2, 82), (0, x1), (9, 0)] [(0, v7)] h Q
      refine w_istore_n (ls' := [(2, 82), (0, x1), (0, v7)]) gz_51_5 gm_51 rfl rfl rfl ?_
      refine w_iload_n gz_51_6 rfl ?_
      refine w_iconst gz_51_7 (by decide) ?_
      refine w_iceq (t := 15) gz_51_8 rfl (fun u8 => by exfalso; omega) (fun u8 => ?_)
      refine w_aload_n gz_51_11 rfl ?_
      refine w_inv (k := 2) (as := []) (r := []) (x := 82) (ls0 := [(2, 82), (9, 0), (9, 0)]) gz_51_12 gm_37 rfl is_82 rd_5 rfl rfl rfl rfl rfl (c_Reader_nextToken_f0 (d := d)  (ev5.symm.trans (by omega)) (fun h9 frh9 w10 w11 w12 => ?_))
      have gh9 : my_fr [(5, 5), (5, 6), (5, 7), (5, 8), (5, 9)] h h9 := my_fr.tr my_fr.rf (frh9.mo rfl)
      show wp l rho (d + 2) 51 15 [(2, 82), (0, x1), (0, v7)] [] h9 Q
      refine w_iload_n gz_51_15 rfl ?_
      have c13 := ((my_fr.at frh9 is_82 rfl).trans ev5.symm)
      exact w_iret gz_51_16 gm_51 (k1 h9 (v7) (gh9) (by omega) (by omega) (by omega) (by omega) (by omega))
    ·
      refine w_aload_n gz_44_23 rfl ?_
      refine w_iconst gz_44_24 (by decide) ?_
      refine w_inv (k := 0) (as := [(0, 4)]) (r := []) (x := 82) (ls0 := [(2, 82), (0, 4)]) gz_44_25 gm_42 rfl is_82 rd_5 rfl rfl rfl rfl rfl ?_
      refine w_aload_n gz_42_0 rfl ?_
      refine v_getI (j := 9) gz_42_1 rfl is_82 rd_5 rfl (fun v14 ev14 pv14 qv14 => ?_)
      have zv14 := ev14.trans cf
      refine w_ifne (t := 20) gz_42_4 rfl (fun u15 => by exfalso; omega) (fun u15 => ?_)
      refine w_aload_n gz_42_7 rfl ?_
      refine w_iload_n gz_42_8 rfl ?_
      refine w_bipush gz_42_9 (by decide) ?_
      refine w_aload_n gz_42_11 rfl ?_
      refine v_getI (j := 7) gz_42_12 rfl is_82 rd_5 rfl (fun v16 ev16 pv16 qv16 => ?_)
      refine w_imul gz_42_15 ⟨by omega, by omega⟩ ?_
      refine w_iadd gz_42_16 ⟨by omega, by omega⟩ ?_
      refine v_putI (j := 9) gz_42_17 rfl is_82 rd_5 rfl (by omega) (by omega) rfl (fun h17 fh17 => ?_)
      have gh17 : my_fr [(5, 5), (5, 6), (5, 7), (5, 8), (5, 9)] h h17 := my_fr.up my_fr.rf is_82 fh17 rfl
      refine w_vret gz_42_20 gm_42 ?_
      show wp l rho (d + 1) 44 28 [(2, 82), (0, x1)] [] h17 _
      refine w_iconst gz_44_28 (by decide) ?_
      refine w_iret gz_44_29 gm_44 ?_
      show wp l rho (d + 2) 51 5 [(2, 82), (0, x1), (9, 0)] [(0, (-1))] h17 Q
      refine w_istore_n (ls' := [(2, 82), (0, x1), (0, (-1))]) gz_51_5 gm_51 rfl rfl rfl ?_
      refine w_iload_n gz_51_6 rfl ?_
      refine w_iconst gz_51_7 (by decide) ?_
      refine w_iceq (t := 15) gz_51_8 rfl (fun u18 => ?_) (fun u18 => by exfalso; omega)
      refine w_iload_n gz_51_15 rfl ?_
      have c19 := (my_up_self fh17)
      exact w_iret gz_51_16 gm_51 (k0 h17 (gh17) (by omega) (by omega))
  ·
    refine w_aload_n gz_44_8 rfl ?_
    refine w_iconst gz_44_9 (by decide) ?_
    refine w_inv (k := 0) (as := [(0, 1)]) (r := []) (x := 82) (ls0 := [(2, 82), (0, 1)]) gz_44_10 gm_42 rfl is_82 rd_5 rfl rfl rfl rfl rfl ?_
    refine w_aload_n gz_42_0 rfl ?_
    refine v_getI (j := 9) gz_42_1 rfl is_82 rd_5 rfl (fun v20 ev20 pv20 qv20 => ?_)
    have zv20 := ev20.trans cf
    refine w_ifne (t := 20) gz_42_4 rfl (fun u21 => by exfalso; omega) (fun u21 => ?_)
    refine w_aload_n gz_42_7 rfl ?_
    refine w_iload_n gz_42_8 rfl ?_
    refine w_bipush gz_42_9 (by decide) ?_
    refine w_aload_n gz_42_11 rfl ?_
    refine v_getI (j := 7) gz_42_12 rfl is_82 rd_5 rfl (fun v22 ev22 pv22 qv22 => ?_)
    refine w_imul gz_42_15 ⟨by omega, by omega⟩ ?_
    refine w_iadd gz_42_16 ⟨by omega, by omega⟩ ?_
    refine v_putI (j := 9) gz_42_17 rfl is_82 rd_5 rfl (by omega) (by omega) rfl (fun h23 fh23 => ?_)
    have gh23 : my_fr [(5, 5), (5, 6), (5, 7), (5, 8), (5, 9)] h h23 := my_fr.up my_fr.rf is_82 fh23 rfl
    refine w_vret gz_42_20 gm_42 ?_
    show wp l rho (d + 1) 44 13 [(2, 82), (0, x1)] [] h23 _
    refine w_iconst gz_44_13 (by decide) ?_
    refine w_iret gz_44_14 gm_44 ?_
    show wp l rho (d + 2) 51 5 [(2, 82), (0, x1), (9, 0)] [(0, (-1))] h23 Q
    refine w_istore_n (ls' := [(2, 82), (0, x1), (0, (-1))]) gz_51_5 gm_51 rfl rfl rfl ?_
    refine w_iload_n gz_51_6 rfl ?_
    refine w_iconst gz_51_7 (by decide) ?_
    refine w_iceq (t := 15) gz_51_8 rfl (fun u24 => ?_) (fun u24 => by exfalso; omega)
    refine w_iload_n gz_51_15 rfl ?_
    have c25 := (my_up_self fh23)
    exact w_iret gz_51_16 gm_51 (k0 h23 (gh23) (by omega) (by omega))
theorem c_Lens_addCut {l : Launch} {rho : Nat → Int32} {d : Nat} {h : my_H} {Q : my_H → my_V → Prop} {x0 x1 x2 x3 : Int} (t0 : my_is 4 x0) (a1 : 0 ≤ x1) (b1 : x1 ≤ 2) (a2 : 0 ≤ x2) (b2 : x2 ≤ 7) (a3 : 0 ≤ x3) (b3 : x3 ≤ 199) (hs5 : h x0 9 ≤ 5) (k0 : ∀ (h' : my_H), my_fr [(4, 5), (4, 8), (4, 9), (32, -1), (33, -1), (34, -1), (35, -1)] h h' → my_fx x0 8 h h' → 1 ≤ h' x0 9 → h' x0 9 ≤ 6 → AddS h h' x0 x1 x3 0 → Q h' (9, 0)) : wp l rho (d + 1) 53 0 [(2, x0), (0, x1), (0, x2), (0, x3)] [] h Q := by
  refine v_know (x := x0) (j := 9) (b := 9) rfl t0 rd_4 rfl (fun ka0_9 eka0_9 pka0_9 qka0_9 => ?_)
  refine v_know (x := x0) (j := 4) (b := 4) rfl t0 rd_4 rfl (fun ka0_4 eka0_4 pka0_4 qka0_4 => ?_)
  refine v_know (x := x0) (j := 1) (b := 1) rfl t0 rd_4 rfl (fun ka0_1 eka0_1 pka0_1 qka0_1 => ?_)
  refine v_know (x := x0) (j := 3) (b := 3) rfl t0 rd_4 rfl (fun ka0_3 eka0_3 pka0_3 qka0_3 => ?_)
  refine w_aload_n gz_53_0 rfl ?_
  refine w_iload_n gz_53_1 rfl ?_
  refine w_inv (k := 0) (as := [(0, x2)]) (r := []) (x := x0) (ls0 := [(2, x0), (0, x2)]) gz_53_2 gm_54 rfl t0 rd_4 rfl rfl rfl rfl rfl ?_
  refine w_aload_n gz_54_0 rfl ?_
  refine w_getX (v := (x0 + 6)) gz_54_1 t0 rd_4 rfl (by decide) rfl ?_
  refine w_iload_n gz_54_4 rfl ?_
  refine w_iald gz_54_5 (ix_4_6 t0) rd_37 (by omega) (by omega) (fun v2 ev2 pv2 qv2 => ?_)
  refine w_iconst gz_54_6 (by decide) ?_
  refine w_iceq (t := 30) gz_54_7 rfl (fun u3 => ?_) (fun u3 => ?_)
  ·
    refine w_vret gz_54_30 gm_54 ?_
    show wp l rho (d + 1) 53 5 [(2, x0), (0, x1), (0, x2), (0, x3)] [] h Q
    have a1 : ∀ j : Int, h (x0 + 1) j = h (x0 + 1) j := fun j => my_ag.at (my_ag.rf) (ix_4_1 t0) rfl
    have a3 : ∀ j : Int, h (x0 + 3) j = h (x0 + 3) j := fun j => my_ag.at (my_ag.rf) (ix_4_3 t0) rfl
    have a4 : ∀ j : Int, h (x0 + 4) j = h (x0 + 4) j := fun j => my_ag.at (my_ag.rf) (ix_4_4 t0) rfl
    have b1 : h x0 1 = h x0 1 := my_ag.at (my_ag.rf) t0 rfl
    have b3 : h x0 3 = h x0 3 := my_ag.at (my_ag.rf) t0 rfl
    have b9 : h x0 9 = h x0 9 := my_ag.at (my_ag.rf) t0 rfl
    have b4 : h x0 4 = h x0 4 := my_ag.at (my_ag.rf) t0 rfl
    refine w_aload_n gz_53_5 rfl ?_
    refine w_iload_n gz_53_6 rfl ?_
    refine w_iload_n gz_53_7 rfl ?_
    refine w_iload_n gz_53_8 rfl ?_
    refine w_iconst gz_53_9 (by decide) ?_
    refine w_inv (k := 0) (as := [(0, 0), (0, x3), (0, x2), (0, x1)]) (r := []) (x := x0) (ls0 := [(2, x0), (0, x1), (0, x2), (0, x3), (0, 0)]) gz_53_10 gm_55 rfl t0 rd_4 rfl rfl rfl rfl rfl ?_
    refine w_aload_n gz_55_0 rfl ?_
    refine w_getX (v := (x0 + 1)) gz_55_1 t0 rd_4 rfl (by decide) rfl ?_
    refine w_aload_n gz_55_4 rfl ?_
    refine v_getI (j := 9) gz_55_5 rfl t0 rd_4 rfl (fun v5 ev5 pv5 qv5 => ?_)
    have zv5 := ev5.trans eka0_9.symm
    refine w_iload_n gz_55_8 rfl ?_
    have hi6 : 0 ≤ v5 := by omega
    have hi7 : v5 ≤ 5 := by omega
    refine w_iast gz_55_9 (ix_4_1 t0) rd_32 (by omega) (by omega) (by omega) (by omega) (fun h8 fh8 => ?_)
    have gh8 : my_fr [(4, 5), (4, 8), (4, 9), (32, -1), (33, -1), (34, -1), (35, -1)] h h8 := my_fr.up my_fr.rf (ix_4_1 t0) fh8 rfl
    have gxh8 : my_fx x0 8 h h8 := my_fx.up my_fx.rf fh8 (by omega)
    refine w_aload_n gz_55_10 rfl ?_
    refine w_getX (v := (x0 + 2)) gz_55_11 t0 rd_4 rfl (by decide) rfl ?_
    refine w_aload_n gz_55_14 rfl ?_
    refine v_getI (j := 9) gz_55_15 rfl t0 rd_4 rfl (fun v10 ev10 pv10 qv10 => ?_)
    have zv10 := ev10.trans ((my_up_role fh8 t0 (ix_4_1 t0) rfl).trans ev5.symm)
    refine w_iload_n gz_55_18 rfl ?_
    refine w_iast gz_55_19 (ix_4_2 t0) rd_33 (by omega) (by omega) (by omega) (by omega) (fun h11 fh11 => ?_)
    have gh11 : my_fr [(4, 5), (4, 8), (4, 9), (32, -1), (33, -1), (34, -1), (35, -1)] h h11 := my_fr.up gh8 (ix_4_2 t0) fh11 rfl
    have gxh11 : my_fx x0 8 h h11 := my_fx.up gxh8 fh11 (by omega)
    refine w_aload_n gz_55_20 rfl ?_
    refine w_getX (v := (x0 + 3)) gz_55_21 t0 rd_4 rfl (by decide) rfl ?_
    refine w_aload_n gz_55_24 rfl ?_
    refine v_getI (j := 9) gz_55_25 rfl t0 rd_4 rfl (fun v13 ev13 pv13 qv13 => ?_)
    have zv13 := ev13.trans ((my_up_role fh11 t0 (ix_4_2 t0) rfl).trans ev10.symm)
    refine w_iload_n gz_55_28 rfl ?_
    refine w_iast gz_55_29 (ix_4_3 t0) rd_34 (by omega) (by omega) (by omega) (by omega) (fun h14 fh14 => ?_)
    have gh14 : my_fr [(4, 5), (4, 8), (4, 9), (32, -1), (33, -1), (34, -1), (35, -1)] h h14 := my_fr.up gh11 (ix_4_3 t0) fh14 rfl
    have gxh14 : my_fx x0 8 h h14 := my_fx.up gxh11 fh14 (by omega)
    refine w_aload_n gz_55_30 rfl ?_
    refine w_getX (v := (x0 + 4)) gz_55_31 t0 rd_4 rfl (by decide) rfl ?_
    refine w_aload_n gz_55_34 rfl ?_
    refine v_getI (j := 9) gz_55_35 rfl t0 rd_4 rfl (fun v16 ev16 pv16 qv16 => ?_)
    have zv16 := ev16.trans ((my_up_role fh14 t0 (ix_4_3 t0) rfl).trans ev13.symm)
    refine w_iload gz_55_38 rfl ?_
    refine w_iast gz_55_40 (ix_4_4 t0) rd_35 (by omega) (by omega) (by omega) (by omega) (fun h17 fh17 => ?_)
    have gh17 : my_fr [(4, 5), (4, 8), (4, 9), (32, -1), (33, -1), (34, -1), (35, -1)] h h17 := my_fr.up gh14 (ix_4_4 t0) fh17 rfl
    have gxh17 : my_fx x0 8 h h17 := my_fx.up gxh14 fh17 (by omega)
    refine w_aload_n gz_55_41 rfl ?_
    refine w_dup gz_55_42 rfl ?_
    refine v_getI (j := 9) gz_55_43 rfl t0 rd_4 rfl (fun v18 ev18 pv18 qv18 => ?_)
    have zv18 := ev18.trans ((my_up_role fh17 t0 (ix_4_4 t0) rfl).trans ev16.symm)
    refine w_iconst gz_55_46 (by decide) ?_
    refine w_iadd gz_55_47 ⟨by omega, by omega⟩ ?_
    refine v_putI (j := 9) gz_55_48 rfl t0 rd_4 rfl (by omega) (by omega) rfl (fun h19 fh19 => ?_)
    have gh19 : my_fr [(4, 5), (4, 8), (4, 9), (32, -1), (33, -1), (34, -1), (35, -1)] h h19 := my_fr.up gh17 t0 fh19 rfl
    have gxh19 : my_fx x0 8 h h19 := my_fx.up gxh17 fh19 (by omega)
    refine w_aload_n gz_55_51 rfl ?_
    refine w_dup gz_55_52 rfl ?_
    refine v_getI (j := 5) gz_55_53 rfl t0 rd_4 rfl (fun v20 ev20 pv20 qv20 => ?_)
    refine w_iconst gz_55_56 (by decide) ?_
    refine w_ianyA gz_55_57 (fun v21 pv21 qv21 => ?_)
    refine v_putA (j := 5) gz_55_58 rfl t0 rd_4 rfl rfl (fun h22 fh22 => ?_)
    have gh22 : my_fr [(4, 5), (4, 8), (4, 9), (32, -1), (33, -1), (34, -1), (35, -1)] h h22 := my_fr.up gh19 t0 fh22 rfl
    have gxh22 : my_fx x0 8 h h22 := my_fx.up gxh19 fh22 (by omega)
    refine w_vret gz_55_61 gm_55 ?_
    show wp l rho (d + 1) 53 13 [(2, x0), (0, x1), (0, x2), (0, x3)] [] h22 Q
    have c23 := ((my_up_fld fh22 (by decide)).trans (my_up_self fh19))
    exact w_vret gz_53_13 gm_53 (k0 h22 (gh22) (gxh22) (by omega) (by omega) (by unfold AddS ln_st; refine ⟨?_, ?_, ?_, ?_, fun j hj => ⟨?_, ?_, ?_⟩, ?_, ?_, ?_⟩ <;> simp only [fh22, fh19, fh17, fh14, fh11, fh8, my_up, a1, a3, a4, b1, b3, b9, b4] <;> (repeat (first | rw [if_neg (by omega)] | rw [if_pos (by omega)])) <;> (try omega)))
  ·
    refine w_aload_n gz_54_10 rfl ?_
    refine w_dup gz_54_11 rfl ?_
    refine v_getI (j := 8) gz_54_12 rfl t0 rd_4 rfl (fun v24 ev24 pv24 qv24 => ?_)
    refine w_iconst gz_54_15 (by decide) ?_
    refine w_aload_n gz_54_16 rfl ?_
    refine w_getX (v := (x0 + 6)) gz_54_17 t0 rd_4 rfl (by decide) rfl ?_
    refine w_iload_n gz_54_20 rfl ?_
    refine w_iald gz_54_21 (ix_4_6 t0) rd_37 (by omega) (by omega) (fun v26 ev26 pv26 qv26 => ?_)
    have zv26 := ev26.trans ev2.symm
    refine w_bipush gz_54_22 (by decide) ?_
    refine w_irem gz_54_24 (by omega) (by decide) ?_
    refine w_ianyL gz_54_25 (fun v27 pv27 qv27 => ?_)
    refine w_ianyO gz_54_26 (fun v28 pv28 qv28 => ?_)
    refine v_putA (j := 8) gz_54_27 rfl t0 rd_4 rfl rfl (fun h29 fh29 => ?_)
    have gh29 : my_fr [(4, 5), (4, 8), (4, 9), (32, -1), (33, -1), (34, -1), (35, -1)] h h29 := my_fr.up my_fr.rf t0 fh29 rfl
    have gxh29 : my_fx x0 8 h h29 := my_fx.up my_fx.rf fh29 (by omega)
    have AgL_h29 : my_ag AgF h h29 := AgL_ag (my_ag.up fh29 t0 rfl) (my_ag.rf)
    refine w_vret gz_54_30 gm_54 ?_
    show wp l rho (d + 1) 53 5 [(2, x0), (0, x1), (0, x2), (0, x3)] [] h29 Q
    have a1 : ∀ j : Int, h29 (x0 + 1) j = h (x0 + 1) j := fun j => my_ag.at AgL_h29 (ix_4_1 t0) rfl
    have a3 : ∀ j : Int, h29 (x0 + 3) j = h (x0 + 3) j := fun j => my_ag.at AgL_h29 (ix_4_3 t0) rfl
    have a4 : ∀ j : Int, h29 (x0 + 4) j = h (x0 + 4) j := fun j => my_ag.at AgL_h29 (ix_4_4 t0) rfl
    have b1 : h29 x0 1 = h x0 1 := my_ag.at AgL_h29 t0 rfl
    have b3 : h29 x0 3 = h x0 3 := my_ag.at AgL_h29 t0 rfl
    have b9 : h29 x0 9 = h x0 9 := my_ag.at AgL_h29 t0 rfl
    have b4 : h29 x0 4 = h x0 4 := my_ag.at AgL_h29 t0 rfl
    refine w_aload_n gz_53_5 rfl ?_
    refine w_iload_n gz_53_6 rfl ?_
    refine w_iload_n gz_53_7 rfl ?_
    refine w_iload_n gz_53_8 rfl ?_
    refine w_iconst gz_53_9 (by decide) ?_
    refine w_inv (k := 0) (as := [(0, 0), (0, x3), (0, x2), (0, x1)]) (r := []) (x := x0) (ls0 := [(2, x0), (0, x1), (0, x2), (0, x3), (0, 0)]) gz_53_10 gm_55 rfl t0 rd_4 rfl rfl rfl rfl rfl ?_
    refine w_aload_n gz_55_0 rfl ?_
    refine w_getX (v := (x0 + 1)) gz_55_1 t0 rd_4 rfl (by decide) rfl ?_
    refine w_aload_n gz_55_4 rfl ?_
    refine v_getI (j := 9) gz_55_5 rfl t0 rd_4 rfl (fun v31 ev31 pv31 qv31 => ?_)
    have zv31 := ev31.trans ((my_up_fld fh29 (by decide)).trans eka0_9.symm)
    refine w_iload_n gz_55_8 rfl ?_
    have hi32 : 0 ≤ v31 := by omega
    have hi33 : v31 ≤ 5 := by omega
    refine w_iast gz_55_9 (ix_4_1 t0) rd_32 (by omega) (by omega) (by omega) (by omega) (fun h34 fh34 => ?_)
    have gh34 : my_fr [(4, 5), (4, 8), (4, 9), (32, -1), (33, -1), (34, -1), (35, -1)] h h34 := my_fr.up gh29 (ix_4_1 t0) fh34 rfl
    have gxh34 : my_fx x0 8 h h34 := my_fx.up gxh29 fh34 (by omega)
    refine w_aload_n gz_55_10 rfl ?_
    refine w_getX (v := (x0 + 2)) gz_55_11 t0 rd_4 rfl (by decide) rfl ?_
    refine w_aload_n gz_55_14 rfl ?_
    refine v_getI (j := 9) gz_55_15 rfl t0 rd_4 rfl (fun v36 ev36 pv36 qv36 => ?_)
    have zv36 := ev36.trans ((my_up_role fh34 t0 (ix_4_1 t0) rfl).trans ev31.symm)
    refine w_iload_n gz_55_18 rfl ?_
    refine w_iast gz_55_19 (ix_4_2 t0) rd_33 (by omega) (by omega) (by omega) (by omega) (fun h37 fh37 => ?_)
    have gh37 : my_fr [(4, 5), (4, 8), (4, 9), (32, -1), (33, -1), (34, -1), (35, -1)] h h37 := my_fr.up gh34 (ix_4_2 t0) fh37 rfl
    have gxh37 : my_fx x0 8 h h37 := my_fx.up gxh34 fh37 (by omega)
    refine w_aload_n gz_55_20 rfl ?_
    refine w_getX (v := (x0 + 3)) gz_55_21 t0 rd_4 rfl (by decide) rfl ?_
    refine w_aload_n gz_55_24 rfl ?_
    refine v_getI (j := 9) gz_55_25 rfl t0 rd_4 rfl (fun v39 ev39 pv39 qv39 => ?_)
    have zv39 := ev39.trans ((my_up_role fh37 t0 (ix_4_2 t0) rfl).trans ev36.symm)
    refine w_iload_n gz_55_28 rfl ?_
    refine w_iast gz_55_29 (ix_4_3 t0) rd_34 (by omega) (by omega) (by omega) (by omega) (fun h40 fh40 => ?_)
    have gh40 : my_fr [(4, 5), (4, 8), (4, 9), (32, -1), (33, -1), (34, -1), (35, -1)] h h40 := my_fr.up gh37 (ix_4_3 t0) fh40 rfl
    have gxh40 : my_fx x0 8 h h40 := my_fx.up gxh37 fh40 (by omega)
    refine w_aload_n gz_55_30 rfl ?_
    refine w_getX (v := (x0 + 4)) gz_55_31 t0 rd_4 rfl (by decide) rfl ?_
    refine w_aload_n gz_55_34 rfl ?_
    refine v_getI (j := 9) gz_55_35 rfl t0 rd_4 rfl (fun v42 ev42 pv42 qv42 => ?_)
    have zv42 := ev42.trans ((my_up_role fh40 t0 (ix_4_3 t0) rfl).trans ev39.symm)
    refine w_iload gz_55_38 rfl ?_
    refine w_iast gz_55_40 (ix_4_4 t0) rd_35 (by omega) (by omega) (by omega) (by omega) (fun h43 fh43 => ?_)
    have gh43 : my_fr [(4, 5), (4, 8), (4, 9), (32, -1), (33, -1), (34, -1), (35, -1)] h h43 := my_fr.up gh40 (ix_4_4 t0) fh43 rfl
    have gxh43 : my_fx x0 8 h h43 := my_fx.up gxh40 fh43 (by omega)
    refine w_aload_n gz_55_41 rfl ?_
    refine w_dup gz_55_42 rfl ?_
    refine v_getI (j := 9) gz_55_43 rfl t0 rd_4 rfl (fun v44 ev44 pv44 qv44 => ?_)
    have zv44 := ev44.trans ((my_up_role fh43 t0 (ix_4_4 t0) rfl).trans ev42.symm)
    refine w_iconst gz_55_46 (by decide) ?_
    refine w_iadd gz_55_47 ⟨by omega, by omega⟩ ?_
    refine v_putI (j := 9) gz_55_48 rfl t0 rd_4 rfl (by omega) (by omega) rfl (fun h45 fh45 => ?_)
    have gh45 : my_fr [(4, 5), (4, 8), (4, 9), (32, -1), (33, -1), (34, -1), (35, -1)] h h45 := my_fr.up gh43 t0 fh45 rfl
    have gxh45 : my_fx x0 8 h h45 := my_fx.up gxh43 fh45 (by omega)
    refine w_aload_n gz_55_51 rfl ?_
    refine w_dup gz_55_52 rfl ?_
    refine v_getI (j := 5) gz_55_53 rfl t0 rd_4 rfl (fun v46 ev46 pv46 qv46 => ?_)
    refine w_iconst gz_55_56 (by decide) ?_
    refine w_ianyA gz_55_57 (fun v47 pv47 qv47 => ?_)
    refine v_putA (j := 5) gz_55_58 rfl t0 rd_4 rfl rfl (fun h48 fh48 => ?_)
    have gh48 : my_fr [(4, 5), (4, 8), (4, 9), (32, -1), (33, -1), (34, -1), (35, -1)] h h48 := my_fr.up gh45 t0 fh48 rfl
    have gxh48 : my_fx x0 8 h h48 := my_fx.up gxh45 fh48 (by omega)
    refine w_vret gz_55_61 gm_55 ?_
    show wp l rho (d + 1) 53 13 [(2, x0), (0, x1), (0, x2), (0, x3)] [] h48 Q
    have c49 := ((my_up_fld fh48 (by decide)).trans (my_up_self fh45))
    exact w_vret gz_53_13 gm_53 (k0 h48 (gh48) (gxh48) (by omega) (by omega) (by unfold AddS ln_st; refine ⟨?_, ?_, ?_, ?_, fun j hj => ⟨?_, ?_, ?_⟩, ?_, ?_, ?_⟩ <;> simp only [fh48, fh45, fh43, fh40, fh37, fh34, fh29, my_up, a1, a3, a4, b1, b3, b9, b4] <;> (repeat (first | rw [if_neg (by omega)] | rw [if_pos (by omega)])) <;> (try omega)))
theorem c_Lens_isPicked {l : Launch} {rho : Nat → Int32} {d : Nat} {h : my_H} {Q : my_H → my_V → Prop} {x0 x1 x2 : Int} (t0 : my_is 4 x0) (a1 : 0 ≤ x1) (b1 : x1 ≤ 7) (a2 : 0 ≤ x2) (b2 : x2 ≤ 8) (hs5 : h x0 9 ≤ 5) (k0 : (∀ n : Int, 0 ≤ n → n < x2 → h (x0 + 5) (h x0 9 * 8 + n) ≠ x1) → Q h (0, 0)) (k1 : 1 ≤ x2 → Q h (0, 1)) : wp l rho d 57 0 [(2, x0), (0, x1), (0, x2), (9, 0)] [] h Q := by
  refine v_know (x := x0) (j := 9) (b := 9) rfl t0 rd_4 rfl (fun ka0_9 eka0_9 pka0_9 qka0_9 => ?_)
  have J2_0 : ∀ (n : Nat) (p2_0 : Int), 0 ≤ p2_0 → p2_0 ≤ 8 → p2_0 ≤ x2 → h x0 9 = ka0_9 → (∀ n : Int, 0 ≤ n → n < p2_0 → h (x0 + 5) (h x0 9 * 8 + n) ≠ x1) → 9 - p2_0 ≤ (n : Int) → wp l rho d 57 2 [(2, x0), (0, x1), (0, x2), (0, p2_0)] [] h Q := by
    intro n
    induction n with
    | zero => intro p2_0 q0_2_0 q1_2_0 q2_2_0 ca0_9_2_0 np_2_0 hm_2_0; exfalso; omega
    | succ n ih_2_0 =>
      intro p2_0 q0_2_0 q1_2_0 q2_2_0 ca0_9_2_0 np_2_0 hm_2_0
      refine w_iload_n gz_57_2 rfl ?_
      refine w_iload_n gz_57_3 rfl ?_
      refine w_icge (t := 33) gz_57_4 rfl (fun u1 => ?_) (fun u1 => ?_)
      ·
        refine w_iconst gz_57_33 (by decide) ?_
        exact w_bret gz_57_34 gm_57 (by omega) (by omega) (k0 (by intro n a b; exact np_2_0 n a (by omega)))
      ·
        refine w_aload_n gz_57_7 rfl ?_
        refine w_getX (v := (x0 + 5)) gz_57_8 t0 rd_4 rfl (by decide) rfl ?_
        refine w_aload_n gz_57_11 rfl ?_
        refine v_getI (j := 9) gz_57_12 rfl t0 rd_4 rfl (fun v3 ev3 pv3 qv3 => ?_)
        have zv3 := ev3.trans ca0_9_2_0
        refine w_bipush gz_57_15 (by decide) ?_
        refine w_imul gz_57_17 ⟨by omega, by omega⟩ ?_
        refine w_iload_n gz_57_18 rfl ?_
        refine w_iadd gz_57_19 ⟨by omega, by omega⟩ ?_
        have hi4 : 0 ≤ ((v3 * 8) + p2_0) := by omega
        have hi5 : ((v3 * 8) + p2_0) ≤ 47 := by omega
        refine w_iald gz_57_20 (ix_4_5 t0) rd_36 (by omega) (by omega) (fun v6 ev6 pv6 qv6 => ?_)
        refine w_iload_n gz_57_21 rfl ?_
        refine w_icne (t := 27) gz_57_22 rfl (fun u7 => ?_) (fun u7 => ?_)
        ·
          refine w_iinc (ls' := [(2, x0), (0, x1), (0, x2), (0, (p2_0 + 1))]) gz_57_27 rfl gm_57 rfl rfl rfl ⟨by omega, by omega⟩ ?_
          refine w_goto (t := 2) gz_57_30 rfl ?_
          exact ih_2_0 ((p2_0 + 1)) (by omega) (by omega) (by omega) (ev3.symm.trans (by omega)) (by first | (intro n a b; omega) | (intro n a b; rcases (by omega : n = p2_0 ∨ n < p2_0) with q | q <;> first | exact np_2_0 n a q | (subst_vars; omega))) (by omega)
        ·
          refine w_iconst gz_57_25 (by decide) ?_
          exact w_bret gz_57_26 gm_57 (by omega) (by omega) (k1 (by omega))
  refine w_iconst gz_57_0 (by decide) ?_
  refine w_istore_n (ls' := [(2, x0), (0, x1), (0, x2), (0, 0)]) gz_57_1 gm_57 rfl rfl rfl ?_
  exact J2_0 9 (0) (by omega) (by omega) (by omega) (eka0_9.symm.trans (by omega)) (by first | (intro n a b; omega) | (intro n a b; rcases (by omega : n = p2_0 ∨ n < p2_0) with q | q <;> first | exact np_2_0 n a q | (subst_vars; omega))) (by omega)
theorem c_Lens_addFew {l : Launch} {rho : Nat → Int32} {d : Nat} {h : my_H} {Q : my_H → my_V → Prop} {x0 x1 : Int} (t0 : my_is 4 x0) (a1 : 1 ≤ x1) (b1 : x1 ≤ 8) (hs5 : h x0 9 ≤ 5) (k0 : ∀ (h' : my_H), my_fr [(4, 4), (4, 5), (4, 9), (32, -1), (33, -1), (34, -1), (35, -1), (37, -1), (39, -1)] h h' → my_fx x0 8 h h' → 1 ≤ h' x0 4 → h' x0 4 ≤ 8 → 1 ≤ h' x0 9 → h' x0 9 ≤ 6 → AddS h h' x0 3 0 x1 → Q h' (9, 0)) : wp l rho (d + 1) 59 0 [(2, x0), (0, x1), (9, 0)] [] h Q := by
  refine v_know (x := x0) (j := 9) (b := 9) rfl t0 rd_4 rfl (fun ka0_9 eka0_9 pka0_9 qka0_9 => ?_)
  have J17_0 : ∀ (n : Nat) (p17_0 : Int) (h17_0 : my_H), my_fr [(4, 4), (4, 5), (4, 9), (32, -1), (33, -1), (34, -1), (35, -1), (37, -1), (39, -1)] h h17_0 → my_fx x0 8 h h17_0 → 0 ≤ p17_0 → p17_0 ≤ 8 → p17_0 ≤ x1 → h17_0 x0 9 = ka0_9 → my_ag AgF h h17_0 → 9 - p17_0 ≤ (n : Int) → wp l rho (d + 1) 59 17 [(2, x0), (0, x1), (0, p17_0)] [] h17_0 Q := by
    intro n
    induction n with
    | zero => intro p17_0 h17_0 gh_17_0 gx_17_0 q0_17_0 q1_17_0 q2_17_0 ca0_9_17_0 n_AgL_17_0 hm_17_0; exfalso; omega
    | succ n ih_17_0 =>
      intro p17_0 h17_0 gh_17_0 gx_17_0 q0_17_0 q1_17_0 q2_17_0 ca0_9_17_0 n_AgL_17_0 hm_17_0
      have a1 : ∀ j : Int, h17_0 (x0 + 1) j = h (x0 + 1) j := fun j => my_ag.at n_AgL_17_0 (ix_4_1 t0) rfl
      have a3 : ∀ j : Int, h17_0 (x0 + 3) j = h (x0 + 3) j := fun j => my_ag.at n_AgL_17_0 (ix_4_3 t0) rfl
      have a4 : ∀ j : Int, h17_0 (x0 + 4) j = h (x0 + 4) j := fun j => my_ag.at n_AgL_17_0 (ix_4_4 t0) rfl
      have b1 : h17_0 x0 1 = h x0 1 := my_ag.at n_AgL_17_0 t0 rfl
      have b3 : h17_0 x0 3 = h x0 3 := my_ag.at n_AgL_17_0 t0 rfl
      have b9 : h17_0 x0 9 = h x0 9 := my_ag.at n_AgL_17_0 t0 rfl
      have b4 : h17_0 x0 4 = h x0 4 := my_ag.at n_AgL_17_0 t0 rfl
      refine w_iload_n gz_59_17 rfl ?_
      refine w_iload_n gz_59_18 rfl ?_
      refine w_icge (t := 53) gz_59_19 rfl (fun u1 => ?_) (fun u1 => ?_)
      ·
        refine w_aload_n gz_59_53 rfl ?_
        refine w_iload_n gz_59_54 rfl ?_
        refine v_putI (j := 4) gz_59_55 rfl t0 rd_4 rfl (by omega) (by omega) rfl (fun h2 fh2 => ?_)
        have gh2 : my_fr [(4, 4), (4, 5), (4, 9), (32, -1), (33, -1), (34, -1), (35, -1), (37, -1), (39, -1)] h h2 := my_fr.up gh_17_0 t0 fh2 rfl
        have gxh2 : my_fx x0 8 h h2 := my_fx.up gx_17_0 fh2 (by omega)
        refine w_aload_n gz_59_58 rfl ?_
        refine w_iconst gz_59_59 (by decide) ?_
        refine w_iconst gz_59_60 (by decide) ?_
        refine w_iconst gz_59_61 (by decide) ?_
        refine w_iload_n gz_59_62 rfl ?_
        refine w_inv (k := 0) (as := [(0, x1), (0, 0), (0, 0), (0, 3)]) (r := []) (x := x0) (ls0 := [(2, x0), (0, 3), (0, 0), (0, 0), (0, x1)]) gz_59_63 gm_55 rfl t0 rd_4 rfl rfl rfl rfl rfl ?_
        refine w_aload_n gz_55_0 rfl ?_
        refine w_getX (v := (x0 + 1)) gz_55_1 t0 rd_4 rfl (by decide) rfl ?_
        refine w_aload_n gz_55_4 rfl ?_
        refine v_getI (j := 9) gz_55_5 rfl t0 rd_4 rfl (fun v4 ev4 pv4 qv4 => ?_)
        have zv4 := ev4.trans ((my_up_fld fh2 (by decide)).trans ca0_9_17_0)
        refine w_iload_n gz_55_8 rfl ?_
        have hi5 : 0 ≤ v4 := by omega
        have hi6 : v4 ≤ 5 := by omega
        refine w_iast gz_55_9 (ix_4_1 t0) rd_32 (by omega) (by omega) (by omega) (by omega) (fun h7 fh7 => ?_)
        have gh7 : my_fr [(4, 4), (4, 5), (4, 9), (32, -1), (33, -1), (34, -1), (35, -1), (37, -1), (39, -1)] h h7 := my_fr.up gh2 (ix_4_1 t0) fh7 rfl
        have gxh7 : my_fx x0 8 h h7 := my_fx.up gxh2 fh7 (by omega)
        refine w_aload_n gz_55_10 rfl ?_
        refine w_getX (v := (x0 + 2)) gz_55_11 t0 rd_4 rfl (by decide) rfl ?_
        refine w_aload_n gz_55_14 rfl ?_
        refine v_getI (j := 9) gz_55_15 rfl t0 rd_4 rfl (fun v9 ev9 pv9 qv9 => ?_)
        have zv9 := ev9.trans ((my_up_role fh7 t0 (ix_4_1 t0) rfl).trans ev4.symm)
        refine w_iload_n gz_55_18 rfl ?_
        refine w_iast gz_55_19 (ix_4_2 t0) rd_33 (by omega) (by omega) (by omega) (by omega) (fun h10 fh10 => ?_)
        have gh10 : my_fr [(4, 4), (4, 5), (4, 9), (32, -1), (33, -1), (34, -1), (35, -1), (37, -1), (39, -1)] h h10 := my_fr.up gh7 (ix_4_2 t0) fh10 rfl
        have gxh10 : my_fx x0 8 h h10 := my_fx.up gxh7 fh10 (by omega)
        refine w_aload_n gz_55_20 rfl ?_
        refine w_getX (v := (x0 + 3)) gz_55_21 t0 rd_4 rfl (by decide) rfl ?_
        refine w_aload_n gz_55_24 rfl ?_
        refine v_getI (j := 9) gz_55_25 rfl t0 rd_4 rfl (fun v12 ev12 pv12 qv12 => ?_)
        have zv12 := ev12.trans ((my_up_role fh10 t0 (ix_4_2 t0) rfl).trans ev9.symm)
        refine w_iload_n gz_55_28 rfl ?_
        refine w_iast gz_55_29 (ix_4_3 t0) rd_34 (by omega) (by omega) (by omega) (by omega) (fun h13 fh13 => ?_)
        have gh13 : my_fr [(4, 4), (4, 5), (4, 9), (32, -1), (33, -1), (34, -1), (35, -1), (37, -1), (39, -1)] h h13 := my_fr.up gh10 (ix_4_3 t0) fh13 rfl
        have gxh13 : my_fx x0 8 h h13 := my_fx.up gxh10 fh13 (by omega)
        refine w_aload_n gz_55_30 rfl ?_
        refine w_getX (v := (x0 + 4)) gz_55_31 t0 rd_4 rfl (by decide) rfl ?_
        refine w_aload_n gz_55_34 rfl ?_
        refine v_getI (j := 9) gz_55_35 rfl t0 rd_4 rfl (fun v15 ev15 pv15 qv15 => ?_)
        have zv15 := ev15.trans ((my_up_role fh13 t0 (ix_4_3 t0) rfl).trans ev12.symm)
        refine w_iload gz_55_38 rfl ?_
        refine w_iast gz_55_40 (ix_4_4 t0) rd_35 (by omega) (by omega) (by omega) (by omega) (fun h16 fh16 => ?_)
        have gh16 : my_fr [(4, 4), (4, 5), (4, 9), (32, -1), (33, -1), (34, -1), (35, -1), (37, -1), (39, -1)] h h16 := my_fr.up gh13 (ix_4_4 t0) fh16 rfl
        have gxh16 : my_fx x0 8 h h16 := my_fx.up gxh13 fh16 (by omega)
        refine w_aload_n gz_55_41 rfl ?_
        refine w_dup gz_55_42 rfl ?_
        refine v_getI (j := 9) gz_55_43 rfl t0 rd_4 rfl (fun v17 ev17 pv17 qv17 => ?_)
        have zv17 := ev17.trans ((my_up_role fh16 t0 (ix_4_4 t0) rfl).trans ev15.symm)
        refine w_iconst gz_55_46 (by decide) ?_
        refine w_iadd gz_55_47 ⟨by omega, by omega⟩ ?_
        refine v_putI (j := 9) gz_55_48 rfl t0 rd_4 rfl (by omega) (by omega) rfl (fun h18 fh18 => ?_)
        have gh18 : my_fr [(4, 4), (4, 5), (4, 9), (32, -1), (33, -1), (34, -1), (35, -1), (37, -1), (39, -1)] h h18 := my_fr.up gh16 t0 fh18 rfl
        have gxh18 : my_fx x0 8 h h18 := my_fx.up gxh16 fh18 (by omega)
        refine w_aload_n gz_55_51 rfl ?_
        refine w_dup gz_55_52 rfl ?_
        refine v_getI (j := 5) gz_55_53 rfl t0 rd_4 rfl (fun v19 ev19 pv19 qv19 => ?_)
        refine w_iconst gz_55_56 (by decide) ?_
        refine w_ianyA gz_55_57 (fun v20 pv20 qv20 => ?_)
        refine v_putA (j := 5) gz_55_58 rfl t0 rd_4 rfl rfl (fun h21 fh21 => ?_)
        have gh21 : my_fr [(4, 4), (4, 5), (4, 9), (32, -1), (33, -1), (34, -1), (35, -1), (37, -1), (39, -1)] h h21 := my_fr.up gh18 t0 fh21 rfl
        have gxh21 : my_fx x0 8 h h21 := my_fx.up gxh18 fh21 (by omega)
        refine w_vret gz_55_61 gm_55 ?_
        show wp l rho (d + 1) 59 66 [(2, x0), (0, x1), (0, p17_0)] [] h21 Q
        have c22 := ((my_up_fld fh21 (by decide)).trans ((my_up_fld fh18 (by decide)).trans ((my_up_role fh16 t0 (ix_4_4 t0) rfl).trans ((my_up_role fh13 t0 (ix_4_3 t0) rfl).trans ((my_up_role fh10 t0 (ix_4_2 t0) rfl).trans ((my_up_role fh7 t0 (ix_4_1 t0) rfl).trans (my_up_self fh2)))))))
        have c23 := ((my_up_fld fh21 (by decide)).trans (my_up_self fh18))
        exact w_vret gz_59_66 gm_59 (k0 h21 (gh21) (gxh21) (by omega) (by omega) (by omega) (by omega) (by unfold AddS ln_st; refine ⟨?_, ?_, ?_, ?_, fun j hj => ⟨?_, ?_, ?_⟩, ?_, ?_, ?_⟩ <;> simp only [fh21, fh18, fh16, fh13, fh10, fh7, fh2, my_up, a1, a3, a4, b1, b3, b9, b4] <;> (repeat (first | rw [if_neg (by omega)] | rw [if_pos (by omega)])) <;> (try omega)))
      ·
        refine w_aload_n gz_59_22 rfl ?_
        refine w_getX (v := (x0 + 6)) gz_59_23 t0 rd_4 rfl (by decide) rfl ?_
        refine w_iload_n gz_59_26 rfl ?_
        refine w_aload_n gz_59_27 rfl ?_
        refine w_getX (v := (x0 + 8)) gz_59_28 t0 rd_4 rfl (by decide) rfl ?_
        refine w_aload_n gz_59_31 rfl ?_
        refine w_getX (v := (x0 + 5)) gz_59_32 t0 rd_4 rfl (by decide) rfl ?_
        refine w_aload_n gz_59_35 rfl ?_
        refine v_getI (j := 9) gz_59_36 rfl t0 rd_4 rfl (fun v27 ev27 pv27 qv27 => ?_)
        have zv27 := ev27.trans ca0_9_17_0
        refine w_bipush gz_59_39 (by decide) ?_
        refine w_imul gz_59_41 ⟨by omega, by omega⟩ ?_
        refine w_iload_n gz_59_42 rfl ?_
        refine w_iadd gz_59_43 ⟨by omega, by omega⟩ ?_
        have hi28 : 0 ≤ ((v27 * 8) + p17_0) := by omega
        have hi29 : ((v27 * 8) + p17_0) ≤ 47 := by omega
        refine w_iald gz_59_44 (ix_4_5 t0) rd_36 (by omega) (by omega) (fun v30 ev30 pv30 qv30 => ?_)
        refine w_iald gz_59_45 (ix_4_8 t0) rd_39 (by omega) (by omega) (fun v31 ev31 pv31 qv31 => ?_)
        refine w_iast gz_59_46 (ix_4_6 t0) rd_37 (by omega) (by omega) (by omega) (by omega) (fun h32 fh32 => ?_)
        have gh32 : my_fr [(4, 4), (4, 5), (4, 9), (32, -1), (33, -1), (34, -1), (35, -1), (37, -1), (39, -1)] h h32 := my_fr.up gh_17_0 (ix_4_6 t0) fh32 rfl
        have gxh32 : my_fx x0 8 h h32 := my_fx.up gx_17_0 fh32 (by omega)
        have AgL_h32 : my_ag AgF h h32 := AgL_ag (my_ag.up fh32 (ix_4_6 t0) rfl) n_AgL_17_0
        refine w_iinc (ls' := [(2, x0), (0, x1), (0, (p17_0 + 1))]) gz_59_47 rfl gm_59 rfl rfl rfl ⟨by omega, by omega⟩ ?_
        refine w_goto (t := 17) gz_59_50 rfl ?_
        exact ih_17_0 ((p17_0 + 1)) h32 (gh32) (gxh32) (by omega) (by omega) (by omega) (((my_up_role fh32 t0 (ix_4_6 t0) rfl).trans ev27.symm).trans (by omega)) AgL_h32 (by omega)
  refine w_aload_n gz_59_0 rfl ?_
  refine w_getX (v := (x0 + 6)) gz_59_1 t0 rd_4 rfl (by decide) rfl ?_
  refine w_iconst gz_59_4 (by decide) ?_
  refine w_aload_n gz_59_5 rfl ?_
  refine w_getX (v := (x0 + 8)) gz_59_6 t0 rd_4 rfl (by decide) rfl ?_
  refine w_iconst gz_59_9 (by decide) ?_
  refine w_bipush gz_59_10 (by decide) ?_
  refine w_cpU gz_59_12 (ix_4_6 t0) rd_37 (ix_4_8 t0) rd_39 (by omega) (by omega) (by omega) (by omega) (by omega) rfl (by decide) (by decide) (fun h35 fh35 => ?_)
  have gh35 : my_fr [(4, 4), (4, 5), (4, 9), (32, -1), (33, -1), (34, -1), (35, -1), (37, -1), (39, -1)] h h35 := my_fr.cp my_fr.rf (ix_4_8 t0) fh35 rfl
  have gxh35 : my_fx x0 8 h h35 := my_fx.cp my_fx.rf fh35 (by omega)
  have AgL_h35 : my_ag AgF h h35 := AgL_ag (my_ag.cp fh35 (ix_4_8 t0) rfl) (my_ag.rf)
  refine w_iconst gz_59_15 (by decide) ?_
  refine w_istore_n (ls' := [(2, x0), (0, x1), (0, 0)]) gz_59_16 gm_59 rfl rfl rfl ?_
  exact J17_0 9 (0) h35 (gh35) (gxh35) (by omega) (by omega) (by omega) (((my_cp_role fh35 t0 (ix_4_8 t0) rfl).trans eka0_9.symm).trans (by omega)) AgL_h35 (by omega)
end MYNModel_findChain_f0
