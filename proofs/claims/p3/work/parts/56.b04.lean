/-! contracts, printed by wip/gen/gy.py -/
section MYNModel_findChain_f0
theorem c_Model_findChain_f0 {l : Launch} {rho : Nat → Int32} {d : Nat} {h : my_H} {Q : my_H → my_V → Prop} {x1 : Int} (a1 : 0 ≤ x1) (b1 : x1 ≤ 6) (cf : h 151 8 = 0) (n_Mw : Mw h) (hfp : Fp h x1) (k0 : ∀ (h' : my_H), my_fr [(10, 32), (10, 33), (76, -1)] h h' → h' 151 8 = 0 → Fc h h' (h' 151 32) (-1) x1 → 1 ≤ h' 151 32 → h' 151 32 ≤ 6 → Q h' (9, 0)) : wp l rho d 180 0 [(2, 151), (0, x1), (9, 0), (9, 0)] [] h Q := by
  have J7_0 : ∀ (n : Nat) (p7_0 p7_1 : Int) (h7_0 : my_H), my_fr [(10, 32), (10, 33), (76, -1)] h h7_0 → (-1) ≤ p7_0 → p7_0 ≤ 6 → 0 ≤ p7_1 → p7_1 ≤ 6 → h7_0 151 32 = p7_1 → h7_0 151 8 = 0 → Mw h7_0 → Fc h h7_0 (h7_0 151 32) p7_0 x1 → (0 ≤ p7_0 → h7_0 151 32 ≤ 5) → (p7_0 < 0 → p7_0 = -1 ∧ 1 ≤ h7_0 151 32) → 7 - h7_0 151 32 ≤ (n : Int) → wp l rho d 180 7 [(2, 151), (0, x1), (0, p7_0), (9, 0)] [] h7_0 Q := by
    intro n
    induction n with
    | zero => intro p7_0 p7_1 h7_0 gh_7_0 q0_7_0 q1_7_0 q2_7_0 q3_7_0 c151_32_7_0 c151_8_7_0 n_Mw_7_0 fc_7_0 cb_7_0 cl_7_0 hm_7_0; exfalso; omega
    | succ n ih_7_0 =>
      intro p7_0 p7_1 h7_0 gh_7_0 q0_7_0 q1_7_0 q2_7_0 q3_7_0 c151_32_7_0 c151_8_7_0 n_Mw_7_0 fc_7_0 cb_7_0 cl_7_0 hm_7_0
      have J16_0 : ∀ (n : Nat) (p16_0 : Int) (h16_0 : my_H), my_fr [(10, 32), (10, 33), (76, -1)] h h16_0 → 0 ≤ p7_0 → 0 ≤ p16_0 → p16_0 ≤ 6 → p16_0 ≤ p7_1 → h16_0 151 32 = p7_1 → h16_0 151 8 = 0 → Mw h16_0 → (∀ j : Int, 0 ≤ j → j ≤ h7_0 151 32 → h16_0 177 j = (if p16_0 < j then h7_0 177 (j - 1) else h7_0 177 j)) → h16_0 151 32 = h7_0 151 32 → p16_0 ≤ h7_0 151 32 → p16_0 - (-1) ≤ (n : Int) → wp l rho d 180 16 [(2, 151), (0, x1), (0, p7_0), (0, p16_0)] [] h16_0 Q := by
        intro n
        induction n with
        | zero => intro p16_0 h16_0 gh_16_0 q0_16_0 q1_16_0 q2_16_0 q3_16_0 c151_32_16_0 c151_8_16_0 n_Mw_16_0 sh_16_0 ca_16_0 l3c_16_0 hm_16_0; exfalso; omega
        | succ n ih_16_0 =>
          intro p16_0 h16_0 gh_16_0 q0_16_0 q1_16_0 q2_16_0 q3_16_0 c151_32_16_0 c151_8_16_0 n_Mw_16_0 sh_16_0 ca_16_0 l3c_16_0 hm_16_0
          refine w_iload_n gz_180_16 rfl ?_
          refine w_ifle (t := 40) gz_180_17 rfl (fun u1 => ?_) (fun u1 => ?_)
          ·
            refine w_aload_n gz_180_40 rfl ?_
            refine w_getX (v := 177) gz_180_41 is_151 rd_10 rfl (by decide) rfl ?_
            refine w_iconst gz_180_44 (by decide) ?_
            refine w_iload_n gz_180_45 rfl ?_
            refine w_iast gz_180_46 is_177 rd_76 (by omega) (by omega) (by omega) (by omega) (fun h3 fh3 => ?_)
            have gh3 : my_fr [(10, 32), (10, 33), (76, -1)] h h3 := my_fr.up gh_16_0 is_177 fh3 rfl
            have Mw_h3 : Mw h3 := Mw_ag (my_ag.up fh3 is_177 rfl) n_Mw_16_0
            have e0 : h3 177 0 = p7_0 := my_up_self fh3
            have ej : ∀ j : Int, 0 < j → j ≤ h7_0 151 32 → h3 177 j = h7_0 177 (j - 1) := fun j a b => by rw [my_up_ne fh3 (by omega), sh_16_0 j (by omega) b, if_pos (by omega)]
            refine w_aload_n gz_180_47 rfl ?_
            refine w_dup gz_180_48 rfl ?_
            refine v_getI (j := 32) gz_180_49 rfl is_151 rd_10 rfl (fun v4 ev4 pv4 qv4 => ?_)
            have zv4 := ev4.trans ((my_up_role fh3 is_151 is_177 rfl).trans c151_32_16_0)
            refine w_iconst gz_180_52 (by decide) ?_
            refine w_iadd gz_180_53 ⟨by omega, by omega⟩ ?_
            have hi5 : 0 ≤ (v4 + 1) := by omega
            have hi6 : (v4 + 1) ≤ 6 := by omega
            refine v_putI (j := 32) gz_180_54 rfl is_151 rd_10 rfl (by omega) (by omega) rfl (fun h7 fh7 => ?_)
            have gh7 : my_fr [(10, 32), (10, 33), (76, -1)] h h7 := my_fr.up gh3 is_151 fh7 rfl
            have Mw_h7 : Mw h7 := Mw_ag (my_ag.up fh7 is_151 rfl) Mw_h3
            refine w_aload_n gz_180_57 rfl ?_
            refine w_aload_n gz_180_58 rfl ?_
            refine w_getX (v := 165) gz_180_59 is_151 rd_10 rfl (by decide) rfl ?_
            refine w_iload_n gz_180_62 rfl ?_
            have a165 : h7 165 p7_0 = h 165 p7_0 := my_fr.at gh7 is_165 rfl
            refine w_bald gz_180_63 is_165 rd_64 (by omega) (by omega) (fun v9 ev9 pv9 qv9 => ?_)
            refine w_ifeq (t := 76) gz_180_64 rfl (fun u10 => ?_) (fun u10 => ?_)
            ·
              refine w_aload_n gz_180_76 rfl ?_
              refine v_getI (j := 33) gz_180_77 rfl is_151 rd_10 rfl (fun v11 ev11 pv11 qv11 => ?_)
              have hi12 : 0 ≤ v11 := by have q := Fc_base n_Mw hfp (by omega) fc_7_0 (by omega) (by omega); omega
              have hi13 : v11 ≤ 2 := by have q := Fc_base n_Mw hfp (by omega) fc_7_0 (by omega) (by omega); omega
              refine v_putI (j := 33) gz_180_80 rfl is_151 rd_10 rfl (by omega) (by omega) rfl (fun h14 fh14 => ?_)
              have gh14 : my_fr [(10, 32), (10, 33), (76, -1)] h h14 := my_fr.up gh7 is_151 fh14 rfl
              have Mw_h14 : Mw h14 := Mw_ag (my_ag.up fh14 is_151 rfl) Mw_h7
              refine w_aload_n gz_180_83 rfl ?_
              refine w_getX (v := 165) gz_180_84 is_151 rd_10 rfl (by decide) rfl ?_
              refine w_iload_n gz_180_87 rfl ?_
              have b165 : h14 165 p7_0 = h 165 p7_0 := my_fr.at gh14 is_165 rfl
              refine w_bald gz_180_88 is_165 rd_64 (by omega) (by omega) (fun v16 ev16 pv16 qv16 => ?_)
              have zv16 := ev16.trans ((my_up_role fh14 is_165 is_151 rfl).trans ev9.symm)
              refine w_ifeq (t := 96) gz_180_89 rfl (fun u17 => ?_) (fun u17 => by exfalso; omega)
              refine w_aload_n gz_180_96 rfl ?_
              refine w_getX (v := 166) gz_180_97 is_151 rd_10 rfl (by decide) rfl ?_
              refine w_iload_n gz_180_100 rfl ?_
              have b166 : h14 166 p7_0 = h 166 p7_0 := my_fr.at gh14 is_166 rfl
              refine w_iald gz_180_101 is_166 rd_65 (by omega) (by omega) (fun v19 ev19 pv19 qv19 => ?_)
              refine w_istore_n (ls' := [(2, 151), (0, x1), (0, v19), (0, p16_0)]) gz_180_102 gm_180 rfl rfl rfl ?_
              refine w_goto (t := 7) gz_180_103 rfl ?_
              have ce20 : h14 151 32 = (v4 + 1) := ((my_up_fld fh14 (by decide)).trans (my_up_self fh7))
              have ce21 : h14 151 33 = v11 := (my_up_self fh14)
              have cc : ∀ j : Int, h14 177 j = h3 177 j := fun j => ((my_up_role fh14 is_177 is_151 rfl).trans ((my_up_role fh7 is_177 is_151 rfl).trans (rfl : h3 177 j = h3 177 j)))
              have fcn : Fc h h14 (h14 151 32) v19 x1 := by
                rw [show h14 151 32 = h7_0 151 32 + 1 by omega]
                exact Fc_s n_Mw hfp (by omega) fc_7_0 (by omega) (by omega) (by rw [cc]; exact e0) (fun j a b => by rw [cc]; exact ej j a b) (by first | (rw [if_pos (by omega)]) | (rw [if_neg (by omega)]; omega)) (by intro q; omega)
              refine w_weak (ls' := [(2, 151), (0, x1), (0, v19), (9, 0)]) (wk_e (wk_e (wk_e (wk_9 wk_n)))) ?_
              exact ih_7_0 (v19) ((v4 + 1)) h14 (gh14) (by omega) (by omega) (by omega) (by omega) (((my_up_fld fh14 (by decide)).trans (my_up_self fh7)).trans (by omega)) (((my_up_fld fh14 (by decide)).trans ((my_up_fld fh7 (by decide)).trans ((my_up_role fh3 is_151 is_177 rfl).trans c151_8_16_0))).trans (by omega)) Mw_h14 (fcn) (by intro q; have q2 := fcn.2.1; omega) (by intro q; have q2 := fcn.2.1; omega) (by omega)
            ·
              refine w_aload_n gz_180_67 rfl ?_
              refine w_getX (v := 166) gz_180_68 is_151 rd_10 rfl (by decide) rfl ?_
              refine w_iload_n gz_180_71 rfl ?_
              have a166 : h7 166 p7_0 = h 166 p7_0 := my_fr.at gh7 is_166 rfl
              refine w_iald gz_180_72 is_166 rd_65 (by omega) (by omega) (fun v23 ev23 pv23 qv23 => ?_)
              refine w_goto (t := 80) gz_180_73 rfl ?_
              have hi24 : 0 ≤ v23 := by have q := Fc_base n_Mw hfp (by omega) fc_7_0 (by omega) (by omega); omega
              have hi25 : v23 ≤ 2 := by have q := Fc_base n_Mw hfp (by omega) fc_7_0 (by omega) (by omega); omega
              refine v_putI (j := 33) gz_180_80 rfl is_151 rd_10 rfl (by omega) (by omega) rfl (fun h26 fh26 => ?_)
              have gh26 : my_fr [(10, 32), (10, 33), (76, -1)] h h26 := my_fr.up gh7 is_151 fh26 rfl
              have Mw_h26 : Mw h26 := Mw_ag (my_ag.up fh26 is_151 rfl) Mw_h7
              refine w_aload_n gz_180_83 rfl ?_
              refine w_getX (v := 165) gz_180_84 is_151 rd_10 rfl (by decide) rfl ?_
              refine w_iload_n gz_180_87 rfl ?_
              have b165 : h26 165 p7_0 = h 165 p7_0 := my_fr.at gh26 is_165 rfl
              refine w_bald gz_180_88 is_165 rd_64 (by omega) (by omega) (fun v28 ev28 pv28 qv28 => ?_)
              have zv28 := ev28.trans ((my_up_role fh26 is_165 is_151 rfl).trans ev9.symm)
              refine w_ifeq (t := 96) gz_180_89 rfl (fun u29 => by exfalso; omega) (fun u29 => ?_)
              refine w_iconst gz_180_92 (by decide) ?_
              refine w_goto (t := 102) gz_180_93 rfl ?_
              refine w_istore_n (ls' := [(2, 151), (0, x1), (0, (-1)), (0, p16_0)]) gz_180_102 gm_180 rfl rfl rfl ?_
              refine w_goto (t := 7) gz_180_103 rfl ?_
              have ce30 : h26 151 32 = (v4 + 1) := ((my_up_fld fh26 (by decide)).trans (my_up_self fh7))
              have ce31 : h26 151 33 = v23 := (my_up_self fh26)
              have cc : ∀ j : Int, h26 177 j = h3 177 j := fun j => ((my_up_role fh26 is_177 is_151 rfl).trans ((my_up_role fh7 is_177 is_151 rfl).trans (rfl : h3 177 j = h3 177 j)))
              have fcn : Fc h h26 (h26 151 32) (-1) x1 := by
                rw [show h26 151 32 = h7_0 151 32 + 1 by omega]
                exact Fc_s n_Mw hfp (by omega) fc_7_0 (by omega) (by omega) (by rw [cc]; exact e0) (fun j a b => by rw [cc]; exact ej j a b) (by first | (rw [if_pos (by omega)]) | (rw [if_neg (by omega)]; omega)) (by intro q; omega)
              refine w_weak (ls' := [(2, 151), (0, x1), (0, (-1)), (9, 0)]) (wk_e (wk_e (wk_e (wk_9 wk_n)))) ?_
              exact ih_7_0 ((-1)) ((v4 + 1)) h26 (gh26) (by omega) (by omega) (by omega) (by omega) (((my_up_fld fh26 (by decide)).trans (my_up_self fh7)).trans (by omega)) (((my_up_fld fh26 (by decide)).trans ((my_up_fld fh7 (by decide)).trans ((my_up_role fh3 is_151 is_177 rfl).trans c151_8_16_0))).trans (by omega)) Mw_h26 (fcn) (by intro q; have q2 := fcn.2.1; omega) (by intro q; have q2 := fcn.2.1; omega) (by omega)
          ·
            refine w_aload_n gz_180_20 rfl ?_
            refine w_getX (v := 177) gz_180_21 is_151 rd_10 rfl (by decide) rfl ?_
            refine w_iload_n gz_180_24 rfl ?_
            refine w_aload_n gz_180_25 rfl ?_
            refine w_getX (v := 177) gz_180_26 is_151 rd_10 rfl (by decide) rfl ?_
            refine w_iload_n gz_180_29 rfl ?_
            refine w_iconst gz_180_30 (by decide) ?_
            refine w_isub gz_180_31 ⟨by omega, by omega⟩ ?_
            refine w_iald gz_180_32 is_177 rd_76 (by omega) (by omega) (fun v34 ev34 pv34 qv34 => ?_)
            have hi35 : 0 ≤ p16_0 := by omega
            have hi36 : p16_0 ≤ 5 := by omega
            refine w_iast gz_180_33 is_177 rd_76 (by omega) (by omega) (by omega) (by omega) (fun h37 fh37 => ?_)
            have gh37 : my_fr [(10, 32), (10, 33), (76, -1)] h h37 := my_fr.up gh_16_0 is_177 fh37 rfl
            have Mw_h37 : Mw h37 := Mw_ag (my_ag.up fh37 is_177 rfl) n_Mw_16_0
            refine w_iinc (ls' := [(2, 151), (0, x1), (0, p7_0), (0, (p16_0 + (-1)))]) gz_180_34 rfl gm_180 rfl rfl rfl ⟨by omega, by omega⟩ ?_
            refine w_goto (t := 16) gz_180_37 rfl ?_
            have ce38 : h37 151 32 = p7_1 := ((my_up_role fh37 is_151 is_177 rfl).trans c151_32_16_0)
            exact ih_16_0 ((p16_0 + (-1))) h37 (gh37) (by omega) (by omega) (by omega) (by omega) (((my_up_role fh37 is_151 is_177 rfl).trans c151_32_16_0).trans (by omega)) (((my_up_role fh37 is_151 is_177 rfl).trans c151_8_16_0).trans (by omega)) Mw_h37 (by first | (intro j a b; rw [if_neg (by omega)]) | (intro j a b; by_cases q : j = p16_0; (subst q; rw [if_pos (by omega), my_up_self fh37]; have q2 := sh_16_0 (j - 1) (by omega) (by omega); rw [if_neg (by omega)] at q2; omega); (rw [my_up_ne fh37 (by omega), sh_16_0 j a b]; by_cases q2 : p16_0 < j; (rw [if_pos q2, if_pos (by omega)]); (rw [if_neg q2, if_neg (by omega)])))) (by first | assumption | omega | (subst_vars; omega)) (by first | assumption | omega | (subst_vars; omega)) (by omega)
      refine w_iload_n gz_180_7 rfl ?_
      refine w_iflt (t := 106) gz_180_8 rfl (fun u39 => ?_) (fun u39 => ?_)
      ·
        have c40 := c151_8_7_0
        exact w_vret gz_180_106 gm_180 (k0 h7_0 (gh_7_0) (by omega) (by first | omega | (have q := fc_7_0; rw [show p7_0 = -1 by have := cl_7_0; omega] at q; exact q)) (by first | omega | (have q := fc_7_0; rw [show p7_0 = -1 by have := cl_7_0; omega] at q; exact q)) (by first | omega | (have q := fc_7_0; rw [show p7_0 = -1 by have := cl_7_0; omega] at q; exact q)))
      ·
        refine w_aload_n gz_180_11 rfl ?_
        refine v_getI (j := 32) gz_180_12 rfl is_151 rd_10 rfl (fun v41 ev41 pv41 qv41 => ?_)
        have zv41 := ev41.trans c151_32_7_0
        refine w_istore_n (ls' := [(2, 151), (0, x1), (0, p7_0), (0, v41)]) gz_180_15 gm_180 rfl rfl rfl ?_
        have ce42 : h7_0 151 32 = v41 := ev41.symm
        exact J16_0 7 (v41) h7_0 (gh_7_0) (by omega) (by omega) (by omega) (by omega) (ev41.symm.trans (by omega)) (c151_8_7_0.trans (by omega)) n_Mw_7_0 (by first | (intro j a b; rw [if_neg (by omega)]) | (intro j a b; by_cases q : j = p16_0; (subst q; rw [if_pos (by omega), my_up_self ]; have q2 := sh_16_0 (j - 1) (by omega) (by omega); rw [if_neg (by omega)] at q2; omega); (rw [my_up_ne  (by omega), sh_16_0 j a b]; by_cases q2 : p16_0 < j; (rw [if_pos q2, if_pos (by omega)]); (rw [if_neg q2, if_neg (by omega)])))) (by first | assumption | omega | (subst_vars; omega)) (by first | assumption | omega | (subst_vars; omega)) (by omega)
  refine w_iload_n gz_180_0 rfl ?_
  refine w_istore_n (ls' := [(2, 151), (0, x1), (0, x1), (9, 0)]) gz_180_1 gm_180 rfl rfl rfl ?_
  refine w_aload_n gz_180_2 rfl ?_
  refine w_iconst gz_180_3 (by decide) ?_
  refine v_putI (j := 32) gz_180_4 rfl is_151 rd_10 rfl (by omega) (by omega) rfl (fun h43 fh43 => ?_)
  have gh43 : my_fr [(10, 32), (10, 33), (76, -1)] h h43 := my_fr.up my_fr.rf is_151 fh43 rfl
  have Mw_h43 : Mw h43 := Mw_ag (my_ag.up fh43 is_151 rfl) n_Mw
  have ce44 : h43 151 32 = 0 := (my_up_self fh43)
  have ce45 : h43 151 33 = h 151 33 := ((my_up_fld fh43 (by decide)).trans (rfl : h 151 33 = h 151 33))
  have fcn : Fc h h43 (h43 151 32) x1 x1 := by
    rw [show h43 151 32 = 0 by omega]
    exact Fc_0
  exact J7_0 (7) (x1) (0) h43 (gh43) (by omega) (by omega) (by omega) (by omega) ((my_up_self fh43).trans (by omega)) (((my_up_fld fh43 (by decide)).trans cf).trans (by omega)) Mw_h43 (fcn) (by intro q; have q2 := fcn.2.1; omega) (by intro q; have q2 := fcn.2.1; omega) (by omega)
theorem c_Model_findChain {l : Launch} {rho : Nat → Int32} {d : Nat} {h : my_H} {Q : my_H → my_V → Prop} {x1 : Int} (a1 : 0 ≤ x1) (b1 : x1 ≤ 6) (n_Mw : Mw h) (hfp : Fp h x1) (k0 : ∀ (h' : my_H), my_fr [(10, 32), (10, 33), (76, -1)] h h' → Fc h h' (h' 151 32) (-1) x1 → 1 ≤ h' 151 32 → h' 151 32 ≤ 6 → Q h' (9, 0)) : wp l rho d 180 0 [(2, 151), (0, x1), (9, 0), (9, 0)] [] h Q := by
  have J7_0 : ∀ (n : Nat) (p7_0 p7_1 : Int) (h7_0 : my_H), my_fr [(10, 32), (10, 33), (76, -1)] h h7_0 → (-1) ≤ p7_0 → p7_0 ≤ 6 → 0 ≤ p7_1 → p7_1 ≤ 6 → h7_0 151 32 = p7_1 → Mw h7_0 → Fc h h7_0 (h7_0 151 32) p7_0 x1 → (0 ≤ p7_0 → h7_0 151 32 ≤ 5) → (p7_0 < 0 → p7_0 = -1 ∧ 1 ≤ h7_0 151 32) → 7 - h7_0 151 32 ≤ (n : Int) → wp l rho d 180 7 [(2, 151), (0, x1), (0, p7_0), (9, 0)] [] h7_0 Q := by
    intro n
    induction n with
    | zero => intro p7_0 p7_1 h7_0 gh_7_0 q0_7_0 q1_7_0 q2_7_0 q3_7_0 c151_32_7_0 n_Mw_7_0 fc_7_0 cb_7_0 cl_7_0 hm_7_0; exfalso; omega
    | succ n ih_7_0 =>
      intro p7_0 p7_1 h7_0 gh_7_0 q0_7_0 q1_7_0 q2_7_0 q3_7_0 c151_32_7_0 n_Mw_7_0 fc_7_0 cb_7_0 cl_7_0 hm_7_0
      have J16_0 : ∀ (n : Nat) (p16_0 : Int) (h16_0 : my_H), my_fr [(10, 32), (10, 33), (76, -1)] h h16_0 → 0 ≤ p7_0 → 0 ≤ p16_0 → p16_0 ≤ 6 → p16_0 ≤ p7_1 → h16_0 151 32 = p7_1 → Mw h16_0 → (∀ j : Int, 0 ≤ j → j ≤ h7_0 151 32 → h16_0 177 j = (if p16_0 < j then h7_0 177 (j - 1) else h7_0 177 j)) → h16_0 151 32 = h7_0 151 32 → p16_0 ≤ h7_0 151 32 → p16_0 - (-1) ≤ (n : Int) → wp l rho d 180 16 [(2, 151), (0, x1), (0, p7_0), (0, p16_0)] [] h16_0 Q := by
        intro n
        induction n with
        | zero => intro p16_0 h16_0 gh_16_0 q0_16_0 q1_16_0 q2_16_0 q3_16_0 c151_32_16_0 n_Mw_16_0 sh_16_0 ca_16_0 l3c_16_0 hm_16_0; exfalso; omega
        | succ n ih_16_0 =>
          intro p16_0 h16_0 gh_16_0 q0_16_0 q1_16_0 q2_16_0 q3_16_0 c151_32_16_0 n_Mw_16_0 sh_16_0 ca_16_0 l3c_16_0 hm_16_0
          refine w_iload_n gz_180_16 rfl ?_
          refine w_ifle (t := 40) gz_180_17 rfl (fun u1 => ?_) (fun u1 => ?_)
          ·
            refine w_aload_n gz_180_40 rfl ?_
            refine w_getX (v := 177) gz_180_41 is_151 rd_10 rfl (by decide) rfl ?_
            refine w_iconst gz_180_44 (by decide) ?_
            refine w_iload_n gz_180_45 rfl ?_
            refine w_iast gz_180_46 is_177 rd_76 (by omega) (by omega) (by omega) (by omega) (fun h3 fh3 => ?_)
            have gh3 : my_fr [(10, 32), (10, 33), (76, -1)] h h3 := my_fr.up gh_16_0 is_177 fh3 rfl
            have Mw_h3 : Mw h3 := Mw_ag (my_ag.up fh3 is_177 rfl) n_Mw_16_0
            have e0 : h3 177 0 = p7_0 := my_up_self fh3
            have ej : ∀ j : Int, 0 < j → j ≤ h7_0 151 32 → h3 177 j = h7_0 177 (j - 1) := fun j a b => by rw [my_up_ne fh3 (by omega), sh_16_0 j (by omega) b, if_pos (by omega)]
            refine w_aload_n gz_180_47 rfl ?_
            refine w_dup gz_180_48 rfl ?_
            refine v_getI (j := 32) gz_180_49 rfl is_151 rd_10 rfl (fun v4 ev4 pv4 qv4 => ?_)
            have zv4 := ev4.trans ((my_up_role fh3 is_151 is_177 rfl).trans c151_32_16_0)
            refine w_iconst gz_180_52 (by decide) ?_
            refine w_iadd gz_180_53 ⟨by omega, by omega⟩ ?_
            have hi5 : 0 ≤ (v4 + 1) := by omega
            have hi6 : (v4 + 1) ≤ 6 := by omega
            refine v_putI (j := 32) gz_180_54 rfl is_151 rd_10 rfl (by omega) (by omega) rfl (fun h7 fh7 => ?_)
            have gh7 : my_fr [(10, 32), (10, 33), (76, -1)] h h7 := my_fr.up gh3 is_151 fh7 rfl
            have Mw_h7 : Mw h7 := Mw_ag (my_ag.up fh7 is_151 rfl) Mw_h3
            refine w_aload_n gz_180_57 rfl ?_
            refine w_aload_n gz_180_58 rfl ?_
            refine w_getX (v := 165) gz_180_59 is_151 rd_10 rfl (by decide) rfl ?_
            refine w_iload_n gz_180_62 rfl ?_
            have a165 : h7 165 p7_0 = h 165 p7_0 := my_fr.at gh7 is_165 rfl
            refine w_bald gz_180_63 is_165 rd_64 (by omega) (by omega) (fun v9 ev9 pv9 qv9 => ?_)
            refine w_ifeq (t := 76) gz_180_64 rfl (fun u10 => ?_) (fun u10 => ?_)
            ·
              refine w_aload_n gz_180_76 rfl ?_
              refine v_getI (j := 33) gz_180_77 rfl is_151 rd_10 rfl (fun v11 ev11 pv11 qv11 => ?_)
              have hi12 : 0 ≤ v11 := by have q := Fc_base n_Mw hfp (by omega) fc_7_0 (by omega) (by omega); omega
              have hi13 : v11 ≤ 2 := by have q := Fc_base n_Mw hfp (by omega) fc_7_0 (by omega) (by omega); omega
              refine v_putI (j := 33) gz_180_80 rfl is_151 rd_10 rfl (by omega) (by omega) rfl (fun h14 fh14 => ?_)
              have gh14 : my_fr [(10, 32), (10, 33), (76, -1)] h h14 := my_fr.up gh7 is_151 fh14 rfl
              have Mw_h14 : Mw h14 := Mw_ag (my_ag.up fh14 is_151 rfl) Mw_h7
              refine w_aload_n gz_180_83 rfl ?_
              refine w_getX (v := 165) gz_180_84 is_151 rd_10 rfl (by decide) rfl ?_
              refine w_iload_n gz_180_87 rfl ?_
              have b165 : h14 165 p7_0 = h 165 p7_0 := my_fr.at gh14 is_165 rfl
              refine w_bald gz_180_88 is_165 rd_64 (by omega) (by omega) (fun v16 ev16 pv16 qv16 => ?_)
              have zv16 := ev16.trans ((my_up_role fh14 is_165 is_151 rfl).trans ev9.symm)
              refine w_ifeq (t := 96) gz_180_89 rfl (fun u17 => ?_) (fun u17 => by exfalso; omega)
              refine w_aload_n gz_180_96 rfl ?_
              refine w_getX (v := 166) gz_180_97 is_151 rd_10 rfl (by decide) rfl ?_
              refine w_iload_n gz_180_100 rfl ?_
              have b166 : h14 166 p7_0 = h 166 p7_0 := my_fr.at gh14 is_166 rfl
              refine w_iald gz_180_101 is_166 rd_65 (by omega) (by omega) (fun v19 ev19 pv19 qv19 => ?_)
              refine w_istore_n (ls' := [(2, 151), (0, x1), (0, v19), (0, p16_0)]) gz_180_102 gm_180 rfl rfl rfl ?_
              refine w_goto (t := 7) gz_180_103 rfl ?_
              have ce20 : h14 151 32 = (v4 + 1) := ((my_up_fld fh14 (by decide)).trans (my_up_self fh7))
              have ce21 : h14 151 33 = v11 := (my_up_self fh14)
              have cc : ∀ j : Int, h14 177 j = h3 177 j := fun j => ((my_up_role fh14 is_177 is_151 rfl).trans ((my_up_role fh7 is_177 is_151 rfl).trans (rfl : h3 177 j = h3 177 j)))
              have fcn : Fc h h14 (h14 151 32) v19 x1 := by
                rw [show h14 151 32 = h7_0 151 32 + 1 by omega]
                exact Fc_s n_Mw hfp (by omega) fc_7_0 (by omega) (by omega) (by rw [cc]; exact e0) (fun j a b => by rw [cc]; exact ej j a b) (by first | (rw [if_pos (by omega)]) | (rw [if_neg (by omega)]; omega)) (by intro q; omega)
              refine w_weak (ls' := [(2, 151), (0, x1), (0, v19), (9, 0)]) (wk_e (wk_e (wk_e (wk_9 wk_n)))) ?_
              exact ih_7_0 (v19) ((v4 + 1)) h14 (gh14) (by omega) (by omega) (by omega) (by omega) (((my_up_fld fh14 (by decide)).trans (my_up_self fh7)).trans (by omega)) Mw_h14 (fcn) (by intro q; have q2 := fcn.2.1; omega) (by intro q; have q2 := fcn.2.1; omega) (by omega)
            ·
              refine w_aload_n gz_180_67 rfl ?_
              refine w_getX (v := 166) gz_180_68 is_151 rd_10 rfl (by decide) rfl ?_
              refine w_iload_n gz_180_71 rfl ?_
              have a166 : h7 166 p7_0 = h 166 p7_0 := my_fr.at gh7 is_166 rfl
              refine w_iald gz_180_72 is_166 rd_65 (by omega) (by omega) (fun v23 ev23 pv23 qv23 => ?_)
              refine w_goto (t := 80) gz_180_73 rfl ?_
              have hi24 : 0 ≤ v23 := by have q := Fc_base n_Mw hfp (by omega) fc_7_0 (by omega) (by omega); omega
              have hi25 : v23 ≤ 2 := by have q := Fc_base n_Mw hfp (by omega) fc_7_0 (by omega) (by omega); omega
              refine v_putI (j := 33) gz_180_80 rfl is_151 rd_10 rfl (by omega) (by omega) rfl (fun h26 fh26 => ?_)
              have gh26 : my_fr [(10, 32), (10, 33), (76, -1)] h h26 := my_fr.up gh7 is_151 fh26 rfl
              have Mw_h26 : Mw h26 := Mw_ag (my_ag.up fh26 is_151 rfl) Mw_h7
              refine w_aload_n gz_180_83 rfl ?_
              refine w_getX (v := 165) gz_180_84 is_151 rd_10 rfl (by decide) rfl ?_
              refine w_iload_n gz_180_87 rfl ?_
              have b165 : h26 165 p7_0 = h 165 p7_0 := my_fr.at gh26 is_165 rfl
              refine w_bald gz_180_88 is_165 rd_64 (by omega) (by omega) (fun v28 ev28 pv28 qv28 => ?_)
              have zv28 := ev28.trans ((my_up_role fh26 is_165 is_151 rfl).trans ev9.symm)
              refine w_ifeq (t := 96) gz_180_89 rfl (fun u29 => by exfalso; omega) (fun u29 => ?_)
              refine w_iconst gz_180_92 (by decide) ?_
              refine w_goto (t := 102) gz_180_93 rfl ?_
              refine w_istore_n (ls' := [(2, 151), (0, x1), (0, (-1)), (0, p16_0)]) gz_180_102 gm_180 rfl rfl rfl ?_
              refine w_goto (t := 7) gz_180_103 rfl ?_
              have ce30 : h26 151 32 = (v4 + 1) := ((my_up_fld fh26 (by decide)).trans (my_up_self fh7))
              have ce31 : h26 151 33 = v23 := (my_up_self fh26)
              have cc : ∀ j : Int, h26 177 j = h3 177 j := fun j => ((my_up_role fh26 is_177 is_151 rfl).trans ((my_up_role fh7 is_177 is_151 rfl).trans (rfl : h3 177 j = h3 177 j)))
              have fcn : Fc h h26 (h26 151 32) (-1) x1 := by
                rw [show h26 151 32 = h7_0 151 32 + 1 by omega]
                exact Fc_s n_Mw hfp (by omega) fc_7_0 (by omega) (by omega) (by rw [cc]; exact e0) (fun j a b => by rw [cc]; exact ej j a b) (by first | (rw [if_pos (by omega)]) | (rw [if_neg (by omega)]; omega)) (by intro q; omega)
              refine w_weak (ls' := [(2, 151), (0, x1), (0, (-1)), (9, 0)]) (wk_e (wk_e (wk_e (wk_9 wk_n)))) ?_
              exact ih_7_0 ((-1)) ((v4 + 1)) h26 (gh26) (by omega) (by omega) (by omega) (by omega) (((my_up_fld fh26 (by decide)).trans (my_up_self fh7)).trans (by omega)) Mw_h26 (fcn) (by intro q; have q2 := fcn.2.1; omega) (by intro q; have q2 := fcn.2.1; omega) (by omega)
          ·
            refine w_aload_n gz_180_20 rfl ?_
            refine w_getX (v := 177) gz_180_21 is_151 rd_10 rfl (by decide) rfl ?_
            refine w_iload_n gz_180_24 rfl ?_
            refine w_aload_n gz_180_25 rfl ?_
            refine w_getX (v := 177) gz_180_26 is_151 rd_10 rfl (by decide) rfl ?_
            refine w_iload_n gz_180_29 rfl ?_
            refine w_iconst gz_180_30 (by decide) ?_
            refine w_isub gz_180_31 ⟨by omega, by omega⟩ ?_
            refine w_iald gz_180_32 is_177 rd_76 (by omega) (by omega) (fun v34 ev34 pv34 qv34 => ?_)
            have hi35 : 0 ≤ p16_0 := by omega
            have hi36 : p16_0 ≤ 5 := by omega
            refine w_iast gz_180_33 is_177 rd_76 (by omega) (by omega) (by omega) (by omega) (fun h37 fh37 => ?_)
            have gh37 : my_fr [(10, 32), (10, 33), (76, -1)] h h37 := my_fr.up gh_16_0 is_177 fh37 rfl
            have Mw_h37 : Mw h37 := Mw_ag (my_ag.up fh37 is_177 rfl) n_Mw_16_0
            refine w_iinc (ls' := [(2, 151), (0, x1), (0, p7_0), (0, (p16_0 + (-1)))]) gz_180_34 rfl gm_180 rfl rfl rfl ⟨by omega, by omega⟩ ?_
            refine w_goto (t := 16) gz_180_37 rfl ?_
            have ce38 : h37 151 32 = p7_1 := ((my_up_role fh37 is_151 is_177 rfl).trans c151_32_16_0)
            exact ih_16_0 ((p16_0 + (-1))) h37 (gh37) (by omega) (by omega) (by omega) (by omega) (((my_up_role fh37 is_151 is_177 rfl).trans c151_32_16_0).trans (by omega)) Mw_h37 (by first | (intro j a b; rw [if_neg (by omega)]) | (intro j a b; by_cases q : j = p16_0; (subst q; rw [if_pos (by omega), my_up_self fh37]; have q2 := sh_16_0 (j - 1) (by omega) (by omega); rw [if_neg (by omega)] at q2; omega); (rw [my_up_ne fh37 (by omega), sh_16_0 j a b]; by_cases q2 : p16_0 < j; (rw [if_pos q2, if_pos (by omega)]); (rw [if_neg q2, if_neg (by omega)])))) (by first | assumption | omega | (subst_vars; omega)) (by first | assumption | omega | (subst_vars; omega)) (by omega)
      refine w_iload_n gz_180_7 rfl ?_
      refine w_iflt (t := 106) gz_180_8 rfl (fun u39 => ?_) (fun u39 => ?_)
      ·
        exact w_vret gz_180_106 gm_180 (k0 h7_0 (gh_7_0) (by first | omega | (have q := fc_7_0; rw [show p7_0 = -1 by have := cl_7_0; omega] at q; exact q)) (by first | omega | (have q := fc_7_0; rw [show p7_0 = -1 by have := cl_7_0; omega] at q; exact q)) (by first | omega | (have q := fc_7_0; rw [show p7_0 = -1 by have := cl_7_0; omega] at q; exact q)))
      ·
        refine w_aload_n gz_180_11 rfl ?_
        refine v_getI (j := 32) gz_180_12 rfl is_151 rd_10 rfl (fun v40 ev40 pv40 qv40 => ?_)
        have zv40 := ev40.trans c151_32_7_0
        refine w_istore_n (ls' := [(2, 151), (0, x1), (0, p7_0), (0, v40)]) gz_180_15 gm_180 rfl rfl rfl ?_
        have ce41 : h7_0 151 32 = v40 := ev40.symm
        exact J16_0 7 (v40) h7_0 (gh_7_0) (by omega) (by omega) (by omega) (by omega) (ev40.symm.trans (by omega)) n_Mw_7_0 (by first | (intro j a b; rw [if_neg (by omega)]) | (intro j a b; by_cases q : j = p16_0; (subst q; rw [if_pos (by omega), my_up_self ]; have q2 := sh_16_0 (j - 1) (by omega) (by omega); rw [if_neg (by omega)] at q2; omega); (rw [my_up_ne  (by omega), sh_16_0 j a b]; by_cases q2 : p16_0 < j; (rw [if_pos q2, if_pos (by omega)]); (rw [if_neg q2, if_neg (by omega)])))) (by first | assumption | omega | (subst_vars; omega)) (by first | assumption | omega | (subst_vars; omega)) (by omega)
  refine w_iload_n gz_180_0 rfl ?_
  refine w_istore_n (ls' := [(2, 151), (0, x1), (0, x1), (9, 0)]) gz_180_1 gm_180 rfl rfl rfl ?_
  refine w_aload_n gz_180_2 rfl ?_
  refine w_iconst gz_180_3 (by decide) ?_
  refine v_putI (j := 32) gz_180_4 rfl is_151 rd_10 rfl (by omega) (by omega) rfl (fun h42 fh42 => ?_)
  have gh42 : my_fr [(10, 32), (10, 33), (76, -1)] h h42 := my_fr.up my_fr.rf is_151 fh42 rfl
  have Mw_h42 : Mw h42 := Mw_ag (my_ag.up fh42 is_151 rfl) n_Mw
  have ce43 : h42 151 32 = 0 := (my_up_self fh42)
  have ce44 : h42 151 33 = h 151 33 := ((my_up_fld fh42 (by decide)).trans (rfl : h 151 33 = h 151 33))
  have fcn : Fc h h42 (h42 151 32) x1 x1 := by
    rw [show h42 151 32 = 0 by omega]
    exact Fc_0
  exact J7_0 (7) (x1) (0) h42 (gh42) (by omega) (by omega) (by omega) (by omega) ((my_up_self fh42).trans (by omega)) Mw_h42 (fcn) (by intro q; have q2 := fcn.2.1; omega) (by intro q; have q2 := fcn.2.1; omega) (by omega)
theorem c_Model_beginsColumns2_f0 {l : Launch} {rho : Nat → Int32} {d : Nat} {h : my_H} {Q : my_H → my_V → Prop} (cf : h 151 8 = 0) (k0 : ∀ (h' : my_H), my_fr [(10, 27), (73, -1), (74, -1), (75, -1)] h h' → h' 151 8 = 0 → 0 ≤ h' 151 27 → h' 151 27 ≤ 4 → h' 151 27 = h 157 (h 151 33) → Q h' (9, 0)) : wp l rho d 181 0 [(2, 151), (9, 0)] [] h Q := by
  refine v_know (x := 151) (j := 33) (b := 33) rfl is_151 rd_10 rfl (fun k151_33 ek151_33 pk151_33 qk151_33 => ?_)
  have J15_0 : ∀ (n : Nat) (p15_0 p15_1 : Int) (h15_0 : my_H), my_fr [(10, 27), (73, -1), (74, -1), (75, -1)] h h15_0 → 0 ≤ p15_0 → p15_0 ≤ 4 → 0 ≤ p15_1 → p15_1 ≤ 4 → p15_0 ≤ p15_1 → h15_0 151 27 = p15_1 → h15_0 151 33 = k151_33 → h15_0 151 8 = 0 → h15_0 151 27 = h 157 (h 151 33) → 5 - p15_0 ≤ (n : Int) → wp l rho d 181 15 [(2, 151), (0, p15_0)] [] h15_0 Q := by
    intro n
    induction n with
    | zero => intro p15_0 p15_1 h15_0 gh_15_0 q0_15_0 q1_15_0 q2_15_0 q3_15_0 q4_15_0 c151_27_15_0 c151_33_15_0 c151_8_15_0 bw_15_0 hm_15_0; exfalso; omega
    | succ n ih_15_0 =>
      intro p15_0 p15_1 h15_0 gh_15_0 q0_15_0 q1_15_0 q2_15_0 q3_15_0 q4_15_0 c151_27_15_0 c151_33_15_0 c151_8_15_0 bw_15_0 hm_15_0
      refine w_iload_n gz_181_15 rfl ?_
      refine w_aload_n gz_181_16 rfl ?_
      refine v_getI (j := 27) gz_181_17 rfl is_151 rd_10 rfl (fun v1 ev1 pv1 qv1 => ?_)
      have zv1 := ev1.trans c151_27_15_0
      refine w_icge (t := 53) gz_181_20 rfl (fun u2 => ?_) (fun u2 => ?_)
      ·
        have ce3 : h15_0 151 27 = v1 := ev1.symm
        have c4 := c151_8_15_0
        have c5 := ev1.symm
        exact w_vret gz_181_53 gm_181 (k0 h15_0 (gh_15_0) (by omega) (by omega) (by omega) (by first | assumption | omega | (subst_vars; omega)))
      ·
        refine w_aload_n gz_181_23 rfl ?_
        refine w_getX (v := 174) gz_181_24 is_151 rd_10 rfl (by decide) rfl ?_
        refine w_iload_n gz_181_27 rfl ?_
        refine w_aload_n gz_181_28 rfl ?_
        refine v_getI (j := 33) gz_181_29 rfl is_151 rd_10 rfl (fun v7 ev7 pv7 qv7 => ?_)
        have zv7 := ev7.trans c151_33_15_0
        refine w_iast gz_181_32 is_174 rd_73 (by omega) (by omega) (by omega) (by omega) (fun h8 fh8 => ?_)
        have gh8 : my_fr [(10, 27), (73, -1), (74, -1), (75, -1)] h h8 := my_fr.up gh_15_0 is_174 fh8 rfl
        refine w_aload_n gz_181_33 rfl ?_
        refine w_getX (v := 175) gz_181_34 is_151 rd_10 rfl (by decide) rfl ?_
        refine w_iload_n gz_181_37 rfl ?_
        refine w_iload_n gz_181_38 rfl ?_
        refine w_iast gz_181_39 is_175 rd_74 (by omega) (by omega) (by omega) (by omega) (fun h10 fh10 => ?_)
        have gh10 : my_fr [(10, 27), (73, -1), (74, -1), (75, -1)] h h10 := my_fr.up gh8 is_175 fh10 rfl
        refine w_aload_n gz_181_40 rfl ?_
        refine w_getX (v := 176) gz_181_41 is_151 rd_10 rfl (by decide) rfl ?_
        refine w_iload_n gz_181_44 rfl ?_
        refine w_iconst gz_181_45 (by decide) ?_
        refine w_bast gz_181_46 is_176 rd_75 (by omega) (by omega) (by omega) (by omega) (fun h12 fh12 => ?_)
        have gh12 : my_fr [(10, 27), (73, -1), (74, -1), (75, -1)] h h12 := my_fr.up gh10 is_176 fh12 rfl
        refine w_iinc (ls' := [(2, 151), (0, (p15_0 + 1))]) gz_181_47 rfl gm_181 rfl rfl rfl ⟨by omega, by omega⟩ ?_
        refine w_goto (t := 15) gz_181_50 rfl ?_
        have ce13 : h12 151 27 = v1 := ((my_up_role fh12 is_151 is_176 rfl).trans ((my_up_role fh10 is_151 is_175 rfl).trans ((my_up_role fh8 is_151 is_174 rfl).trans ev1.symm)))
        exact ih_15_0 ((p15_0 + 1)) (v1) h12 (gh12) (by omega) (by omega) (by omega) (by omega) (by omega) (((my_up_role fh12 is_151 is_176 rfl).trans ((my_up_role fh10 is_151 is_175 rfl).trans ((my_up_role fh8 is_151 is_174 rfl).trans ev1.symm))).trans (by omega)) (((my_up_role fh12 is_151 is_176 rfl).trans ((my_up_role fh10 is_151 is_175 rfl).trans ((my_up_role fh8 is_151 is_174 rfl).trans ev7.symm))).trans (by omega)) (((my_up_role fh12 is_151 is_176 rfl).trans ((my_up_role fh10 is_151 is_175 rfl).trans ((my_up_role fh8 is_151 is_174 rfl).trans c151_8_15_0))).trans (by omega)) (by first | omega | (subst_vars; omega)) (by omega)
  refine w_aload_n gz_181_0 rfl ?_
  refine w_aload_n gz_181_1 rfl ?_
  refine w_getX (v := 157) gz_181_2 is_151 rd_10 rfl (by decide) rfl ?_
  refine w_aload_n gz_181_5 rfl ?_
  refine v_getI (j := 33) gz_181_6 rfl is_151 rd_10 rfl (fun v15 ev15 pv15 qv15 => ?_)
  have zv15 := ev15.trans ek151_33.symm
  refine w_iald gz_181_9 is_157 rd_56 (by omega) (by omega) (fun v16 ev16 pv16 qv16 => ?_)
  refine v_putI (j := 27) gz_181_10 rfl is_151 rd_10 rfl (by omega) (by omega) rfl (fun h17 fh17 => ?_)
  have gh17 : my_fr [(10, 27), (73, -1), (74, -1), (75, -1)] h h17 := my_fr.up my_fr.rf is_151 fh17 rfl
  refine w_iconst gz_181_13 (by decide) ?_
  refine w_istore_n (ls' := [(2, 151), (0, 0)]) gz_181_14 gm_181 rfl rfl rfl ?_
  have ce18 : h17 151 27 = v16 := (my_up_self fh17)
  exact J15_0 5 (0) (v16) h17 (gh17) (by omega) (by omega) (by omega) (by omega) (by omega) ((my_up_self fh17).trans (by omega)) (((my_up_fld fh17 (by decide)).trans ev15.symm).trans (by omega)) (((my_up_fld fh17 (by decide)).trans cf).trans (by omega)) (by first | omega | (subst_vars; omega)) (by omega)
theorem c_Model_beginsColumns2 {l : Launch} {rho : Nat → Int32} {d : Nat} {h : my_H} {Q : my_H → my_V → Prop} (k0 : ∀ (h' : my_H), my_fr [(10, 27), (73, -1), (74, -1), (75, -1)] h h' → 0 ≤ h' 151 27 → h' 151 27 ≤ 4 → h' 151 27 = h 157 (h 151 33) → Q h' (9, 0)) : wp l rho d 181 0 [(2, 151), (9, 0)] [] h Q := by
  refine v_know (x := 151) (j := 33) (b := 33) rfl is_151 rd_10 rfl (fun k151_33 ek151_33 pk151_33 qk151_33 => ?_)
  have J15_0 : ∀ (n : Nat) (p15_0 p15_1 : Int) (h15_0 : my_H), my_fr [(10, 27), (73, -1), (74, -1), (75, -1)] h h15_0 → 0 ≤ p15_0 → p15_0 ≤ 4 → 0 ≤ p15_1 → p15_1 ≤ 4 → p15_0 ≤ p15_1 → h15_0 151 27 = p15_1 → h15_0 151 33 = k151_33 → h15_0 151 27 = h 157 (h 151 33) → 5 - p15_0 ≤ (n : Int) → wp l rho d 181 15 [(2, 151), (0, p15_0)] [] h15_0 Q := by
    intro n
    induction n with
    | zero => intro p15_0 p15_1 h15_0 gh_15_0 q0_15_0 q1_15_0 q2_15_0 q3_15_0 q4_15_0 c151_27_15_0 c151_33_15_0 bw_15_0 hm_15_0; exfalso; omega
    | succ n ih_15_0 =>
      intro p15_0 p15_1 h15_0 gh_15_0 q0_15_0 q1_15_0 q2_15_0 q3_15_0 q4_15_0 c151_27_15_0 c151_33_15_0 bw_15_0 hm_15_0
      refine w_iload_n gz_181_15 rfl ?_
      refine w_aload_n gz_181_16 rfl ?_
      refine v_getI (j := 27) gz_181_17 rfl is_151 rd_10 rfl (fun v1 ev1 pv1 qv1 => ?_)
      have zv1 := ev1.trans c151_27_15_0
      refine w_icge (t := 53) gz_181_20 rfl (fun u2 => ?_) (fun u2 => ?_)
      ·
        have ce3 : h15_0 151 27 = v1 := ev1.symm
        have c4 := ev1.symm
        exact w_vret gz_181_53 gm_181 (k0 h15_0 (gh_15_0) (by omega) (by omega) (by first | assumption | omega | (subst_vars; omega)))
      ·
        refine w_aload_n gz_181_23 rfl ?_
        refine w_getX (v := 174) gz_181_24 is_151 rd_10 rfl (by decide) rfl ?_
        refine w_iload_n gz_181_27 rfl ?_
        refine w_aload_n gz_181_28 rfl ?_
        refine v_getI (j := 33) gz_181_29 rfl is_151 rd_10 rfl (fun v6 ev6 pv6 qv6 => ?_)
        have zv6 := ev6.trans c151_33_15_0
        refine w_iast gz_181_32 is_174 rd_73 (by omega) (by omega) (by omega) (by omega) (fun h7 fh7 => ?_)
        have gh7 : my_fr [(10, 27), (73, -1), (74, -1), (75, -1)] h h7 := my_fr.up gh_15_0 is_174 fh7 rfl
        refine w_aload_n gz_181_33 rfl ?_
        refine w_getX (v := 175) gz_181_34 is_151 rd_10 rfl (by decide) rfl ?_
        refine w_iload_n gz_181_37 rfl ?_
        refine w_iload_n gz_181_38 rfl ?_
        refine w_iast gz_181_39 is_175 rd_74 (by omega) (by omega) (by omega) (by omega) (fun h9 fh9 => ?_)
        have gh9 : my_fr [(10, 27), (73, -1), (74, -1), (75, -1)] h h9 := my_fr.up gh7 is_175 fh9 rfl
        refine w_aload_n gz_181_40 rfl ?_
        refine w_getX (v := 176) gz_181_41 is_151 rd_10 rfl (by decide) rfl ?_
        refine w_iload_n gz_181_44 rfl ?_
        refine w_iconst gz_181_45 (by decide) ?_
        refine w_bast gz_181_46 is_176 rd_75 (by omega) (by omega) (by omega) (by omega) (fun h11 fh11 => ?_)
        have gh11 : my_fr [(10, 27), (73, -1), (74, -1), (75, -1)] h h11 := my_fr.up gh9 is_176 fh11 rfl
        refine w_iinc (ls' := [(2, 151), (0, (p15_0 + 1))]) gz_181_47 rfl gm_181 rfl rfl rfl ⟨by omega, by omega⟩ ?_
        refine w_goto (t := 15) gz_181_50 rfl ?_
        have ce12 : h11 151 27 = v1 := ((my_up_role fh11 is_151 is_176 rfl).trans ((my_up_role fh9 is_151 is_175 rfl).trans ((my_up_role fh7 is_151 is_174 rfl).trans ev1.symm)))
        exact ih_15_0 ((p15_0 + 1)) (v1) h11 (gh11) (by omega) (by omega) (by omega) (by omega) (by omega) (((my_up_role fh11 is_151 is_176 rfl).trans ((my_up_role fh9 is_151 is_175 rfl).trans ((my_up_role fh7 is_151 is_174 rfl).trans ev1.symm))).trans (by omega)) (((my_up_role fh11 is_151 is_176 rfl).trans ((my_up_role fh9 is_151 is_175 rfl).trans ((my_up_role fh7 is_151 is_174 rfl).trans ev6.symm))).trans (by omega)) (by first | omega | (subst_vars; omega)) (by omega)
  refine w_aload_n gz_181_0 rfl ?_
  refine w_aload_n gz_181_1 rfl ?_
  refine w_getX (v := 157) gz_181_2 is_151 rd_10 rfl (by decide) rfl ?_
  refine w_aload_n gz_181_5 rfl ?_
  refine v_getI (j := 33) gz_181_6 rfl is_151 rd_10 rfl (fun v14 ev14 pv14 qv14 => ?_)
  have zv14 := ev14.trans ek151_33.symm
  refine w_iald gz_181_9 is_157 rd_56 (by omega) (by omega) (fun v15 ev15 pv15 qv15 => ?_)
  refine v_putI (j := 27) gz_181_10 rfl is_151 rd_10 rfl (by omega) (by omega) rfl (fun h16 fh16 => ?_)
  have gh16 : my_fr [(10, 27), (73, -1), (74, -1), (75, -1)] h h16 := my_fr.up my_fr.rf is_151 fh16 rfl
  refine w_iconst gz_181_13 (by decide) ?_
  refine w_istore_n (ls' := [(2, 151), (0, 0)]) gz_181_14 gm_181 rfl rfl rfl ?_
  have ce17 : h16 151 27 = v15 := (my_up_self fh16)
  exact J15_0 5 (0) (v15) h16 (gh16) (by omega) (by omega) (by omega) (by omega) (by omega) ((my_up_self fh16).trans (by omega)) (((my_up_fld fh16 (by decide)).trans ev14.symm).trans (by omega)) (by first | omega | (subst_vars; omega)) (by omega)
theorem c_Model_pane_f0 {l : Launch} {rho : Nat → Int32} {d : Nat} {h : my_H} {Q : my_H → my_V → Prop} {x1 : Int} (a1 : 0 ≤ x1) (b1 : x1 ≤ 41) (cf : h 151 8 = 0) (pj : h 168 x1 = 4 → 0 ≤ h 170 x1 ∧ h 170 x1 ≤ 2 ∧ 1 ≤ h 157 (h 170 x1) ∧ h 151 27 + h 157 (h 170 x1) ≤ 9) (k0 : ∀ (h' : my_H), my_fr [(10, 27), (73, -1), (74, -1), (75, -1), (77, -1), (78, -1), (79, -1)] h h' → h' 151 8 = 0 → h' 151 27 = ms h x1 (h 151 27) → Q h' (9, 0)) : wp l rho d 182 0 [(2, 151), (0, x1), (9, 0)] [] h Q := by
  refine v_know (x := 151) (j := 27) (b := 27) rfl is_151 rd_10 rfl (fun k151_27 ek151_27 pk151_27 qk151_27 => ?_)
  have J207_0 : ∀ (n : Nat) (p207_0 p207_1 : Int) (h207_0 : my_H), my_fr [(10, 27), (73, -1), (74, -1), (75, -1), (77, -1), (78, -1), (79, -1)] h h207_0 → 0 ≤ p207_0 → p207_0 ≤ 8 → 0 ≤ p207_1 → p207_1 ≤ 8 → p207_0 ≤ p207_1 → h207_0 151 27 = p207_1 → h207_0 151 8 = 0 → h 168 x1 = 3 → h207_0 151 27 = h 171 x1 → 9 - p207_0 ≤ (n : Int) → wp l rho d 182 207 [(2, 151), (0, x1), (0, p207_0)] [] h207_0 Q := by
    intro n
    induction n with
    | zero => intro p207_0 p207_1 h207_0 gh_207_0 q0_207_0 q1_207_0 q2_207_0 q3_207_0 q4_207_0 c151_27_207_0 c151_8_207_0 k3_207_0 w3_207_0 hm_207_0; exfalso; omega
    | succ n ih_207_0 =>
      intro p207_0 p207_1 h207_0 gh_207_0 q0_207_0 q1_207_0 q2_207_0 q3_207_0 q4_207_0 c151_27_207_0 c151_8_207_0 k3_207_0 w3_207_0 hm_207_0
      refine w_iload_n gz_182_207 rfl ?_
      refine w_aload_n gz_182_208 rfl ?_
      refine v_getI (j := 27) gz_182_209 rfl is_151 rd_10 rfl (fun v1 ev1 pv1 qv1 => ?_)
      have zv1 := ev1.trans c151_27_207_0
      refine w_icge (t := 287) gz_182_212 rfl (fun u2 => ?_) (fun u2 => ?_)
      ·
        have ce3 : h207_0 151 27 = v1 := ev1.symm
        have c4 := c151_8_207_0
        exact w_vret gz_182_287 gm_182 (k0 h207_0 (gh_207_0) (by omega) (by unfold ms; (repeat (first | rw [if_pos (by omega)] | rw [if_neg (by omega)])); (try omega)))
      ·
        refine w_aload_n gz_182_215 rfl ?_
        refine w_getX (v := 174) gz_182_216 is_151 rd_10 rfl (by decide) rfl ?_
        refine w_iload_n gz_182_219 rfl ?_
        refine w_aload_n gz_182_220 rfl ?_
        refine w_getX (v := 178) gz_182_221 is_151 rd_10 rfl (by decide) rfl ?_
        refine w_aload_n gz_182_224 rfl ?_
        refine w_getX (v := 172) gz_182_225 is_151 rd_10 rfl (by decide) rfl ?_
        refine w_bipush gz_182_228 (by decide) ?_
        refine w_iload_n gz_182_230 rfl ?_
        refine w_imul gz_182_231 ⟨by omega, by omega⟩ ?_
        refine w_iload_n gz_182_232 rfl ?_
        refine w_iadd gz_182_233 ⟨by omega, by omega⟩ ?_
        refine w_iald gz_182_234 is_172 rd_71 (by omega) (by omega) (fun v8 ev8 pv8 qv8 => ?_)
        refine w_iald gz_182_235 is_178 rd_77 (by omega) (by omega) (fun v9 ev9 pv9 qv9 => ?_)
        refine w_iast gz_182_236 is_174 rd_73 (by omega) (by omega) (by omega) (by omega) (fun h10 fh10 => ?_)
        have gh10 : my_fr [(10, 27), (73, -1), (74, -1), (75, -1), (77, -1), (78, -1), (79, -1)] h h10 := my_fr.up gh_207_0 is_174 fh10 rfl
        refine w_aload_n gz_182_237 rfl ?_
        refine w_getX (v := 175) gz_182_238 is_151 rd_10 rfl (by decide) rfl ?_
        refine w_iload_n gz_182_241 rfl ?_
        refine w_aload_n gz_182_242 rfl ?_
        refine w_getX (v := 179) gz_182_243 is_151 rd_10 rfl (by decide) rfl ?_
        refine w_aload_n gz_182_246 rfl ?_
        refine w_getX (v := 172) gz_182_247 is_151 rd_10 rfl (by decide) rfl ?_
        refine w_bipush gz_182_250 (by decide) ?_
        refine w_iload_n gz_182_252 rfl ?_
        refine w_imul gz_182_253 ⟨by omega, by omega⟩ ?_
        refine w_iload_n gz_182_254 rfl ?_
        refine w_iadd gz_182_255 ⟨by omega, by omega⟩ ?_
        refine w_iald gz_182_256 is_172 rd_71 (by omega) (by omega) (fun v14 ev14 pv14 qv14 => ?_)
        refine w_iald gz_182_257 is_179 rd_78 (by omega) (by omega) (fun v15 ev15 pv15 qv15 => ?_)
        refine w_iast gz_182_258 is_175 rd_74 (by omega) (by omega) (by omega) (by omega) (fun h16 fh16 => ?_)
        have gh16 : my_fr [(10, 27), (73, -1), (74, -1), (75, -1), (77, -1), (78, -1), (79, -1)] h h16 := my_fr.up gh10 is_175 fh16 rfl
        refine w_aload_n gz_182_259 rfl ?_
        refine w_getX (v := 176) gz_182_260 is_151 rd_10 rfl (by decide) rfl ?_
        refine w_iload_n gz_182_263 rfl ?_
        refine w_aload_n gz_182_264 rfl ?_
        refine w_getX (v := 180) gz_182_265 is_151 rd_10 rfl (by decide) rfl ?_
        refine w_aload_n gz_182_268 rfl ?_
        refine w_getX (v := 172) gz_182_269 is_151 rd_10 rfl (by decide) rfl ?_
        refine w_bipush gz_182_272 (by decide) ?_
        refine w_iload_n gz_182_274 rfl ?_
        refine w_imul gz_182_275 ⟨by omega, by omega⟩ ?_
        refine w_iload_n gz_182_276 rfl ?_
        refine w_iadd gz_182_277 ⟨by omega, by omega⟩ ?_
        refine w_iald gz_182_278 is_172 rd_71 (by omega) (by omega) (fun v20 ev20 pv20 qv20 => ?_)
        refine w_bald gz_182_279 is_180 rd_79 (by omega) (by omega) (fun v21 ev21 pv21 qv21 => ?_)
        refine w_bast gz_182_280 is_176 rd_75 (by omega) (by omega) (by omega) (by omega) (fun h22 fh22 => ?_)
        have gh22 : my_fr [(10, 27), (73, -1), (74, -1), (75, -1), (77, -1), (78, -1), (79, -1)] h h22 := my_fr.up gh16 is_176 fh22 rfl
        refine w_iinc (ls' := [(2, 151), (0, x1), (0, (p207_0 + 1))]) gz_182_281 rfl gm_182 rfl rfl rfl ⟨by omega, by omega⟩ ?_
        refine w_goto (t := 207) gz_182_284 rfl ?_
        have ce23 : h22 151 27 = v1 := ((my_up_role fh22 is_151 is_176 rfl).trans ((my_up_role fh16 is_151 is_175 rfl).trans ((my_up_role fh10 is_151 is_174 rfl).trans ev1.symm)))
        exact ih_207_0 ((p207_0 + 1)) (v1) h22 (gh22) (by omega) (by omega) (by omega) (by omega) (by omega) (((my_up_role fh22 is_151 is_176 rfl).trans ((my_up_role fh16 is_151 is_175 rfl).trans ((my_up_role fh10 is_151 is_174 rfl).trans ev1.symm))).trans (by omega)) (((my_up_role fh22 is_151 is_176 rfl).trans ((my_up_role fh16 is_151 is_175 rfl).trans ((my_up_role fh10 is_151 is_174 rfl).trans c151_8_207_0))).trans (by omega)) (by first | omega | (subst_vars; omega)) (by first | omega | (subst_vars; omega)) (by omega)
  have J145_0 : ∀ (n : Nat) (p145_0 : Int) (h145_0 : my_H), my_fr [(10, 27), (73, -1), (74, -1), (75, -1), (77, -1), (78, -1), (79, -1)] h h145_0 → 0 ≤ p145_0 → p145_0 ≤ 8 → p145_0 ≤ k151_27 → h145_0 151 27 = k151_27 → h145_0 151 8 = 0 → h 168 x1 = 3 → 9 - p145_0 ≤ (n : Int) → wp l rho d 182 145 [(2, 151), (0, x1), (0, p145_0)] [] h145_0 Q := by
    intro n
    induction n with
    | zero => intro p145_0 h145_0 gh_145_0 q0_145_0 q1_145_0 q2_145_0 c151_27_145_0 c151_8_145_0 k3_145_0 hm_145_0; exfalso; omega
    | succ n ih_145_0 =>
      intro p145_0 h145_0 gh_145_0 q0_145_0 q1_145_0 q2_145_0 c151_27_145_0 c151_8_145_0 k3_145_0 hm_145_0
      refine w_iload_n gz_182_145 rfl ?_
      refine w_aload_n gz_182_146 rfl ?_
      refine v_getI (j := 27) gz_182_147 rfl is_151 rd_10 rfl (fun v24 ev24 pv24 qv24 => ?_)
      have zv24 := ev24.trans c151_27_145_0
      refine w_icge (t := 195) gz_182_150 rfl (fun u25 => ?_) (fun u25 => ?_)
      ·
        refine w_aload_n gz_182_195 rfl ?_
        refine w_aload_n gz_182_196 rfl ?_
        refine w_getX (v := 171) gz_182_197 is_151 rd_10 rfl (by decide) rfl ?_
        refine w_iload_n gz_182_200 rfl ?_
        refine w_iald gz_182_201 is_171 rd_70 (by omega) (by omega) (fun v27 ev27 pv27 qv27 => ?_)
        have a171 : h145_0 171 x1 = h 171 x1 := my_fr.at gh_145_0 is_171 rfl
        refine v_putI (j := 27) gz_182_202 rfl is_151 rd_10 rfl (by omega) (by omega) rfl (fun h28 fh28 => ?_)
        have gh28 : my_fr [(10, 27), (73, -1), (74, -1), (75, -1), (77, -1), (78, -1), (79, -1)] h h28 := my_fr.up gh_145_0 is_151 fh28 rfl
        refine w_iconst gz_182_205 (by decide) ?_
        refine w_istore_n (ls' := [(2, 151), (0, x1), (0, 0)]) gz_182_206 gm_182 rfl rfl rfl ?_
        have ce29 : h28 151 27 = v27 := (my_up_self fh28)
        exact J207_0 9 (0) (v27) h28 (gh28) (by omega) (by omega) (by omega) (by omega) (by omega) ((my_up_self fh28).trans (by omega)) (((my_up_fld fh28 (by decide)).trans c151_8_145_0).trans (by omega)) (by first | omega | (subst_vars; omega)) (by first | omega | (subst_vars; omega)) (by omega)
      ·
        refine w_aload_n gz_182_153 rfl ?_
        refine w_getX (v := 178) gz_182_154 is_151 rd_10 rfl (by decide) rfl ?_
        refine w_iload_n gz_182_157 rfl ?_
        refine w_aload_n gz_182_158 rfl ?_
        refine w_getX (v := 174) gz_182_159 is_151 rd_10 rfl (by decide) rfl ?_
        refine w_iload_n gz_182_162 rfl ?_
        refine w_iald gz_182_163 is_174 rd_73 (by omega) (by omega) (fun v32 ev32 pv32 qv32 => ?_)
        refine w_iast gz_182_164 is_178 rd_77 (by omega) (by omega) (by omega) (by omega) (fun h33 fh33 => ?_)
        have gh33 : my_fr [(10, 27), (73, -1), (74, -1), (75, -1), (77, -1), (78, -1), (79, -1)] h h33 := my_fr.up gh_145_0 is_178 fh33 rfl
        refine w_aload_n gz_182_165 rfl ?_
        refine w_getX (v := 179) gz_182_166 is_151 rd_10 rfl (by decide) rfl ?_
        refine w_iload_n gz_182_169 rfl ?_
        refine w_aload_n gz_182_170 rfl ?_
        refine w_getX (v := 175) gz_182_171 is_151 rd_10 rfl (by decide) rfl ?_
        refine w_iload_n gz_182_174 rfl ?_
        refine w_iald gz_182_175 is_175 rd_74 (by omega) (by omega) (fun v36 ev36 pv36 qv36 => ?_)
        refine w_iast gz_182_176 is_179 rd_78 (by omega) (by omega) (by omega) (by omega) (fun h37 fh37 => ?_)
        have gh37 : my_fr [(10, 27), (73, -1), (74, -1), (75, -1), (77, -1), (78, -1), (79, -1)] h h37 := my_fr.up gh33 is_179 fh37 rfl
        refine w_aload_n gz_182_177 rfl ?_
        refine w_getX (v := 180) gz_182_178 is_151 rd_10 rfl (by decide) rfl ?_
        refine w_iload_n gz_182_181 rfl ?_
        refine w_aload_n gz_182_182 rfl ?_
        refine w_getX (v := 176) gz_182_183 is_151 rd_10 rfl (by decide) rfl ?_
        refine w_iload_n gz_182_186 rfl ?_
        refine w_bald gz_182_187 is_176 rd_75 (by omega) (by omega) (fun v40 ev40 pv40 qv40 => ?_)
        refine w_bast gz_182_188 is_180 rd_79 (by omega) (by omega) (by omega) (by omega) (fun h41 fh41 => ?_)
        have gh41 : my_fr [(10, 27), (73, -1), (74, -1), (75, -1), (77, -1), (78, -1), (79, -1)] h h41 := my_fr.up gh37 is_180 fh41 rfl
        refine w_iinc (ls' := [(2, 151), (0, x1), (0, (p145_0 + 1))]) gz_182_189 rfl gm_182 rfl rfl rfl ⟨by omega, by omega⟩ ?_
        refine w_goto (t := 145) gz_182_192 rfl ?_
        exact ih_145_0 ((p145_0 + 1)) h41 (gh41) (by omega) (by omega) (by omega) (((my_up_role fh41 is_151 is_180 rfl).trans ((my_up_role fh37 is_151 is_179 rfl).trans ((my_up_role fh33 is_151 is_178 rfl).trans ev24.symm))).trans (by omega)) (((my_up_role fh41 is_151 is_180 rfl).trans ((my_up_role fh37 is_151 is_179 rfl).trans ((my_up_role fh33 is_151 is_178 rfl).trans c151_8_145_0))).trans (by omega)) (by first | omega | (subst_vars; omega)) (by omega)
  have J64_0 : ∀ (n : Nat) (p64_0 p64_1 : Int) (h64_0 : my_H), my_fr [(10, 27), (73, -1), (74, -1), (75, -1), (77, -1), (78, -1), (79, -1)] h h64_0 → 1 ≤ p64_0 → p64_0 ≤ 4 → 0 ≤ p64_1 → p64_1 ≤ 8 → p64_0 ≤ (p64_1 + 1) → k151_27 ≤ p64_1 → h64_0 151 27 = p64_1 → h64_0 151 8 = 0 → h 168 x1 = 4 → h64_0 151 27 = h 151 27 + p64_0 - 1 → p64_0 ≤ h 157 (h 170 x1) → 5 - p64_0 ≤ (n : Int) → wp l rho d 182 64 [(2, 151), (0, x1), (0, p64_0)] [] h64_0 Q := by
    intro n
    induction n with
    | zero => intro p64_0 p64_1 h64_0 gh_64_0 q0_64_0 q1_64_0 q2_64_0 q3_64_0 q4_64_0 q5_64_0 c151_27_64_0 c151_8_64_0 k4_64_0 wd_64_0 lc_64_0 hm_64_0; exfalso; omega
    | succ n ih_64_0 =>
      intro p64_0 p64_1 h64_0 gh_64_0 q0_64_0 q1_64_0 q2_64_0 q3_64_0 q4_64_0 q5_64_0 c151_27_64_0 c151_8_64_0 k4_64_0 wd_64_0 lc_64_0 hm_64_0
      have a170 : h64_0 170 x1 = h 170 x1 := my_fr.at gh_64_0 is_170 rfl
      have a157 : h64_0 157 (h 170 x1) = h 157 (h 170 x1) := my_fr.at gh_64_0 is_157 rfl
      have pq := pj k4_64_0
      refine w_iload_n gz_182_64 rfl ?_
      refine w_aload_n gz_182_65 rfl ?_
      refine w_getX (v := 157) gz_182_66 is_151 rd_10 rfl (by decide) rfl ?_
      refine w_aload_n gz_182_69 rfl ?_
      refine w_getX (v := 170) gz_182_70 is_151 rd_10 rfl (by decide) rfl ?_
      refine w_iload_n gz_182_73 rfl ?_
      refine w_iald gz_182_74 is_170 rd_69 (by omega) (by omega) (fun v44 ev44 pv44 qv44 => ?_)
      have a170b : h64_0 170 x1 = h 170 x1 := my_fr.at gh_64_0 is_170 rfl
      have e75 : v44 = h 170 x1 := by omega
      have f75 : h64_0 157 v44 = h 157 v44 := my_fr.at gh_64_0 is_157 rfl
      have pq2 := pj k4_64_0
      have hi45 : 0 ≤ v44 := by omega
      have hi46 : v44 ≤ 2 := by omega
      refine w_iald gz_182_75 is_157 rd_56 (by omega) (by omega) (fun v47 ev47 pv47 qv47 => ?_)
      have a76 : v47 = h 157 (h 170 x1) := by rw [← e75]; omega
      refine w_icge (t := 130) gz_182_76 rfl (fun u48 => ?_) (fun u48 => ?_)
      ·
        refine w_goto (t := 287) gz_182_130 rfl ?_
        have ce49 : h64_0 151 27 = p64_1 := c151_27_64_0
        have c50 := c151_8_64_0
        exact w_vret gz_182_287 gm_182 (k0 h64_0 (gh_64_0) (by omega) (by unfold ms; (repeat (first | rw [if_pos (by omega)] | rw [if_neg (by omega)])); (try omega)))
      ·
        refine w_aload_n gz_182_79 rfl ?_
        refine w_getX (v := 174) gz_182_80 is_151 rd_10 rfl (by decide) rfl ?_
        refine w_aload_n gz_182_83 rfl ?_
        refine v_getI (j := 27) gz_182_84 rfl is_151 rd_10 rfl (fun v52 ev52 pv52 qv52 => ?_)
        have zv52 := ev52.trans c151_27_64_0
        refine w_aload_n gz_182_87 rfl ?_
        refine w_getX (v := 170) gz_182_88 is_151 rd_10 rfl (by decide) rfl ?_
        refine w_iload_n gz_182_91 rfl ?_
        refine w_iald gz_182_92 is_170 rd_69 (by omega) (by omega) (fun v54 ev54 pv54 qv54 => ?_)
        have zv54 := ev54.trans ev44.symm
        have hi55 : 0 ≤ v52 := by first | omega | (subst_vars; omega) | grind
        have hi56 : v52 ≤ 7 := by first | omega | (subst_vars; omega) | grind
        refine w_iast gz_182_93 is_174 rd_73 (by omega) (by omega) (by omega) (by omega) (fun h57 fh57 => ?_)
        have gh57 : my_fr [(10, 27), (73, -1), (74, -1), (75, -1), (77, -1), (78, -1), (79, -1)] h h57 := my_fr.up gh_64_0 is_174 fh57 rfl
        refine w_aload_n gz_182_94 rfl ?_
        refine w_getX (v := 175) gz_182_95 is_151 rd_10 rfl (by decide) rfl ?_
        refine w_aload_n gz_182_98 rfl ?_
        refine v_getI (j := 27) gz_182_99 rfl is_151 rd_10 rfl (fun v59 ev59 pv59 qv59 => ?_)
        have zv59 := ev59.trans ((my_up_role fh57 is_151 is_174 rfl).trans ev52.symm)
        refine w_iload_n gz_182_102 rfl ?_
        refine w_iast gz_182_103 is_175 rd_74 (by omega) (by omega) (by omega) (by omega) (fun h60 fh60 => ?_)
        have gh60 : my_fr [(10, 27), (73, -1), (74, -1), (75, -1), (77, -1), (78, -1), (79, -1)] h h60 := my_fr.up gh57 is_175 fh60 rfl
        refine w_aload_n gz_182_104 rfl ?_
        refine w_getX (v := 176) gz_182_105 is_151 rd_10 rfl (by decide) rfl ?_
        refine w_aload_n gz_182_108 rfl ?_
        refine v_getI (j := 27) gz_182_109 rfl is_151 rd_10 rfl (fun v62 ev62 pv62 qv62 => ?_)
        have zv62 := ev62.trans ((my_up_role fh60 is_151 is_175 rfl).trans ev59.symm)
        refine w_iconst gz_182_112 (by decide) ?_
        refine w_bast gz_182_113 is_176 rd_75 (by omega) (by omega) (by omega) (by omega) (fun h63 fh63 => ?_)
        have gh63 : my_fr [(10, 27), (73, -1), (74, -1), (75, -1), (77, -1), (78, -1), (79, -1)] h h63 := my_fr.up gh60 is_176 fh63 rfl
        refine w_aload_n gz_182_114 rfl ?_
        refine w_dup gz_182_115 rfl ?_
        refine v_getI (j := 27) gz_182_116 rfl is_151 rd_10 rfl (fun v64 ev64 pv64 qv64 => ?_)
        have zv64 := ev64.trans ((my_up_role fh63 is_151 is_176 rfl).trans ev62.symm)
        refine w_iconst gz_182_119 (by decide) ?_
        refine w_iadd gz_182_120 ⟨by omega, by omega⟩ ?_
        refine v_putI (j := 27) gz_182_121 rfl is_151 rd_10 rfl (by omega) (by omega) rfl (fun h65 fh65 => ?_)
        have gh65 : my_fr [(10, 27), (73, -1), (74, -1), (75, -1), (77, -1), (78, -1), (79, -1)] h h65 := my_fr.up gh63 is_151 fh65 rfl
        refine w_iinc (ls' := [(2, 151), (0, x1), (0, (p64_0 + 1))]) gz_182_124 rfl gm_182 rfl rfl rfl ⟨by omega, by omega⟩ ?_
        refine w_goto (t := 64) gz_182_127 rfl ?_
        have ce66 : h65 151 27 = (v64 + 1) := (my_up_self fh65)
        exact ih_64_0 ((p64_0 + 1)) ((v64 + 1)) h65 (gh65) (by omega) (by omega) (by omega) (by omega) (by omega) (by omega) ((my_up_self fh65).trans (by omega)) (((my_up_fld fh65 (by decide)).trans ((my_up_role fh63 is_151 is_176 rfl).trans ((my_up_role fh60 is_151 is_175 rfl).trans ((my_up_role fh57 is_151 is_174 rfl).trans c151_8_64_0)))).trans (by omega)) (by first | omega | (subst_vars; omega)) (by first | omega | (subst_vars; omega)) (by first | omega | (subst_vars; omega)) (by omega)
  have J17_0 : ∀ (n : Nat) (p17_0 : Int) (h17_0 : my_H), my_fr [(10, 27), (73, -1), (74, -1), (75, -1), (77, -1), (78, -1), (79, -1)] h h17_0 → 0 ≤ p17_0 → p17_0 ≤ 2 → h17_0 151 27 = 2 → h17_0 151 8 = 0 → h 168 x1 = 5 → h17_0 151 27 = 2 → 3 - p17_0 ≤ (n : Int) → wp l rho d 182 17 [(2, 151), (0, x1), (0, p17_0)] [] h17_0 Q := by
    intro n
    induction n with
    | zero => intro p17_0 h17_0 gh_17_0 q0_17_0 q1_17_0 c151_27_17_0 c151_8_17_0 k5_17_0 w5_17_0 hm_17_0; exfalso; omega
    | succ n ih_17_0 =>
      intro p17_0 h17_0 gh_17_0 q0_17_0 q1_17_0 c151_27_17_0 c151_8_17_0 k5_17_0 w5_17_0 hm_17_0
      refine w_iload_n gz_182_17 rfl ?_
      refine w_iconst gz_182_18 (by decide) ?_
      refine w_icge (t := 49) gz_182_19 rfl (fun u67 => ?_) (fun u67 => ?_)
      ·
        refine w_goto (t := 287) gz_182_49 rfl ?_
        have ce68 : h17_0 151 27 = 2 := c151_27_17_0
        have c69 := c151_8_17_0
        exact w_vret gz_182_287 gm_182 (k0 h17_0 (gh_17_0) (by omega) (by unfold ms; (repeat (first | rw [if_pos (by omega)] | rw [if_neg (by omega)])); (try omega)))
      ·
        refine w_aload_n gz_182_22 rfl ?_
        refine w_getX (v := 174) gz_182_23 is_151 rd_10 rfl (by decide) rfl ?_
        refine w_iload_n gz_182_26 rfl ?_
        refine w_iconst gz_182_27 (by decide) ?_
        refine w_iast gz_182_28 is_174 rd_73 (by omega) (by omega) (by omega) (by omega) (fun h71 fh71 => ?_)
        have gh71 : my_fr [(10, 27), (73, -1), (74, -1), (75, -1), (77, -1), (78, -1), (79, -1)] h h71 := my_fr.up gh_17_0 is_174 fh71 rfl
        refine w_aload_n gz_182_29 rfl ?_
        refine w_getX (v := 175) gz_182_30 is_151 rd_10 rfl (by decide) rfl ?_
        refine w_iload_n gz_182_33 rfl ?_
        refine w_iconst gz_182_34 (by decide) ?_
        refine w_iast gz_182_35 is_175 rd_74 (by omega) (by omega) (by omega) (by omega) (fun h73 fh73 => ?_)
        have gh73 : my_fr [(10, 27), (73, -1), (74, -1), (75, -1), (77, -1), (78, -1), (79, -1)] h h73 := my_fr.up gh71 is_175 fh73 rfl
        refine w_aload_n gz_182_36 rfl ?_
        refine w_getX (v := 176) gz_182_37 is_151 rd_10 rfl (by decide) rfl ?_
        refine w_iload_n gz_182_40 rfl ?_
        refine w_iconst gz_182_41 (by decide) ?_
        refine w_bast gz_182_42 is_176 rd_75 (by omega) (by omega) (by omega) (by omega) (fun h75 fh75 => ?_)
        have gh75 : my_fr [(10, 27), (73, -1), (74, -1), (75, -1), (77, -1), (78, -1), (79, -1)] h h75 := my_fr.up gh73 is_176 fh75 rfl
        refine w_iinc (ls' := [(2, 151), (0, x1), (0, (p17_0 + 1))]) gz_182_43 rfl gm_182 rfl rfl rfl ⟨by omega, by omega⟩ ?_
        refine w_goto (t := 17) gz_182_46 rfl ?_
        have ce76 : h75 151 27 = 2 := ((my_up_role fh75 is_151 is_176 rfl).trans ((my_up_role fh73 is_151 is_175 rfl).trans ((my_up_role fh71 is_151 is_174 rfl).trans c151_27_17_0)))
        exact ih_17_0 ((p17_0 + 1)) h75 (gh75) (by omega) (by omega) (((my_up_role fh75 is_151 is_176 rfl).trans ((my_up_role fh73 is_151 is_175 rfl).trans ((my_up_role fh71 is_151 is_174 rfl).trans c151_27_17_0))).trans (by omega)) (((my_up_role fh75 is_151 is_176 rfl).trans ((my_up_role fh73 is_151 is_175 rfl).trans ((my_up_role fh71 is_151 is_174 rfl).trans c151_8_17_0))).trans (by omega)) (by first | omega | (subst_vars; omega)) (by first | omega | (subst_vars; omega)) (by omega)
  refine w_aload_n gz_182_0 rfl ?_
  refine w_getX (v := 168) gz_182_1 is_151 rd_10 rfl (by decide) rfl ?_
  refine w_iload_n gz_182_4 rfl ?_
  refine w_iald gz_182_5 is_168 rd_67 (by omega) (by omega) (fun v78 ev78 pv78 qv78 => ?_)
  refine w_iconst gz_182_6 (by decide) ?_
  refine w_icne (t := 52) gz_182_7 rfl (fun u79 => ?_) (fun u79 => ?_)
  ·
    refine w_aload_n gz_182_52 rfl ?_
    refine w_getX (v := 168) gz_182_53 is_151 rd_10 rfl (by decide) rfl ?_
    refine w_iload_n gz_182_56 rfl ?_
    refine w_iald gz_182_57 is_168 rd_67 (by omega) (by omega) (fun v81 ev81 pv81 qv81 => ?_)
    have zv81 := ev81.trans ev78.symm
    refine w_iconst gz_182_58 (by decide) ?_
    refine w_icne (t := 133) gz_182_59 rfl (fun u82 => ?_) (fun u82 => ?_)
    ·
      refine w_aload_n gz_182_133 rfl ?_
      refine w_getX (v := 168) gz_182_134 is_151 rd_10 rfl (by decide) rfl ?_
      refine w_iload_n gz_182_137 rfl ?_
      refine w_iald gz_182_138 is_168 rd_67 (by omega) (by omega) (fun v84 ev84 pv84 qv84 => ?_)
      have zv84 := ev84.trans ev81.symm
      refine w_iconst gz_182_139 (by decide) ?_
      refine w_icne (t := 287) gz_182_140 rfl (fun u85 => ?_) (fun u85 => ?_)
      ·
        have ce86 : h 151 27 = k151_27 := ek151_27.symm
        have c87 := cf
        exact w_vret gz_182_287 gm_182 (k0 h (my_fr.rf) (by omega) (by unfold ms; (repeat (first | rw [if_pos (by omega)] | rw [if_neg (by omega)])); (try omega)))
      ·
        refine w_iconst gz_182_143 (by decide) ?_
        refine w_istore_n (ls' := [(2, 151), (0, x1), (0, 0)]) gz_182_144 gm_182 rfl rfl rfl ?_
        exact J145_0 9 (0) h (my_fr.rf) (by omega) (by omega) (by omega) (ek151_27.symm.trans (by omega)) (cf.trans (by omega)) (by first | omega | (subst_vars; omega)) (by omega)
    ·
      refine w_iconst gz_182_62 (by decide) ?_
      refine w_istore_n (ls' := [(2, 151), (0, x1), (0, 1)]) gz_182_63 gm_182 rfl rfl rfl ?_
      have ce88 : h 151 27 = k151_27 := ek151_27.symm
      exact J64_0 4 (1) (k151_27) h (my_fr.rf) (by omega) (by omega) (by omega) (by omega) (by omega) (by omega) (ek151_27.symm.trans (by omega)) (cf.trans (by omega)) (by first | omega | (subst_vars; omega)) (by first | omega | (subst_vars; omega)) (by first | omega | (subst_vars; omega)) (by omega)
  ·
    refine w_aload_n gz_182_10 rfl ?_
    refine w_iconst gz_182_11 (by decide) ?_
    refine v_putI (j := 27) gz_182_12 rfl is_151 rd_10 rfl (by omega) (by omega) rfl (fun h89 fh89 => ?_)
    have gh89 : my_fr [(10, 27), (73, -1), (74, -1), (75, -1), (77, -1), (78, -1), (79, -1)] h h89 := my_fr.up my_fr.rf is_151 fh89 rfl
    refine w_iconst gz_182_15 (by decide) ?_
    refine w_istore_n (ls' := [(2, 151), (0, x1), (0, 0)]) gz_182_16 gm_182 rfl rfl rfl ?_
    have ce90 : h89 151 27 = 2 := (my_up_self fh89)
    exact J17_0 3 (0) h89 (gh89) (by omega) (by omega) ((my_up_self fh89).trans (by omega)) (((my_up_fld fh89 (by decide)).trans cf).trans (by omega)) (by first | omega | (subst_vars; omega)) (by first | omega | (subst_vars; omega)) (by omega)
theorem c_Model_pane {l : Launch} {rho : Nat → Int32} {d : Nat} {h : my_H} {Q : my_H → my_V → Prop} {x1 : Int} (a1 : 0 ≤ x1) (b1 : x1 ≤ 41) (pj : h 168 x1 = 4 → 0 ≤ h 170 x1 ∧ h 170 x1 ≤ 2 ∧ 1 ≤ h 157 (h 170 x1) ∧ h 151 27 + h 157 (h 170 x1) ≤ 9) (k0 : ∀ (h' : my_H), my_fr [(10, 27), (73, -1), (74, -1), (75, -1), (77, -1), (78, -1), (79, -1)] h h' → h' 151 27 = ms h x1 (h 151 27) → Q h' (9, 0)) : wp l rho d 182 0 [(2, 151), (0, x1), (9, 0)] [] h Q := by
  refine v_know (x := 151) (j := 27) (b := 27) rfl is_151 rd_10 rfl (fun k151_27 ek151_27 pk151_27 qk151_27 => ?_)
  have J207_0 : ∀ (n : Nat) (p207_0 p207_1 : Int) (h207_0 : my_H), my_fr [(10, 27), (73, -1), (74, -1), (75, -1), (77, -1), (78, -1), (79, -1)] h h207_0 → 0 ≤ p207_0 → p207_0 ≤ 8 → 0 ≤ p207_1 → p207_1 ≤ 8 → p207_0 ≤ p207_1 → h207_0 151 27 = p207_1 → h 168 x1 = 3 → h207_0 151 27 = h 171 x1 → 9 - p207_0 ≤ (n : Int) → wp l rho d 182 207 [(2, 151), (0, x1), (0, p207_0)] [] h207_0 Q := by
    intro n
    induction n with
    | zero => intro p207_0 p207_1 h207_0 gh_207_0 q0_207_0 q1_207_0 q2_207_0 q3_207_0 q4_207_0 c151_27_207_0 k3_207_0 w3_207_0 hm_207_0; exfalso; omega
    | succ n ih_207_0 =>
      intro p207_0 p207_1 h207_0 gh_207_0 q0_207_0 q1_207_0 q2_207_0 q3_207_0 q4_207_0 c151_27_207_0 k3_207_0 w3_207_0 hm_207_0
      refine w_iload_n gz_182_207 rfl ?_
      refine w_aload_n gz_182_208 rfl ?_
      refine v_getI (j := 27) gz_182_209 rfl is_151 rd_10 rfl (fun v1 ev1 pv1 qv1 => ?_)
      have zv1 := ev1.trans c151_27_207_0
      refine w_icge (t := 287) gz_182_212 rfl (fun u2 => ?_) (fun u2 => ?_)
      ·
        have ce3 : h207_0 151 27 = v1 := ev1.symm
        exact w_vret gz_182_287 gm_182 (k0 h207_0 (gh_207_0) (by unfold ms; (repeat (first | rw [if_pos (by omega)] | rw [if_neg (by omega)])); (try omega)))
      ·
        refine w_aload_n gz_182_215 rfl ?_
        refine w_getX (v := 174) gz_182_216 is_151 rd_10 rfl (by decide) rfl ?_
        refine w_iload_n gz_182_219 rfl ?_
        refine w_aload_n gz_182_220 rfl ?_
        refine w_getX (v := 178) gz_182_221 is_151 rd_10 rfl (by decide) rfl ?_
        refine w_aload_n gz_182_224 rfl ?_
        refine w_getX (v := 172) gz_182_225 is_151 rd_10 rfl (by decide) rfl ?_
        refine w_bipush gz_182_228 (by decide) ?_
        refine w_iload_n gz_182_230 rfl ?_
        refine w_imul gz_182_231 ⟨by omega, by omega⟩ ?_
        refine w_iload_n gz_182_232 rfl ?_
        refine w_iadd gz_182_233 ⟨by omega, by omega⟩ ?_
        refine w_iald gz_182_234 is_172 rd_71 (by omega) (by omega) (fun v7 ev7 pv7 qv7 => ?_)
        refine w_iald gz_182_235 is_178 rd_77 (by omega) (by omega) (fun v8 ev8 pv8 qv8 => ?_)
        refine w_iast gz_182_236 is_174 rd_73 (by omega) (by omega) (by omega) (by omega) (fun h9 fh9 => ?_)
        have gh9 : my_fr [(10, 27), (73, -1), (74, -1), (75, -1), (77, -1), (78, -1), (79, -1)] h h9 := my_fr.up gh_207_0 is_174 fh9 rfl
        refine w_aload_n gz_182_237 rfl ?_
        refine w_getX (v := 175) gz_182_238 is_151 rd_10 rfl (by decide) rfl ?_
        refine w_iload_n gz_182_241 rfl ?_
        refine w_aload_n gz_182_242 rfl ?_
        refine w_getX (v := 179) gz_182_243 is_151 rd_10 rfl (by decide) rfl ?_
        refine w_aload_n gz_182_246 rfl ?_
        refine w_getX (v := 172) gz_182_247 is_151 rd_10 rfl (by decide) rfl ?_
        refine w_bipush gz_182_250 (by decide) ?_
        refine w_iload_n gz_182_252 rfl ?_
        refine w_imul gz_182_253 ⟨by omega, by omega⟩ ?_
        refine w_iload_n gz_182_254 rfl ?_
        refine w_iadd gz_182_255 ⟨by omega, by omega⟩ ?_
        refine w_iald gz_182_256 is_172 rd_71 (by omega) (by omega) (fun v13 ev13 pv13 qv13 => ?_)
        refine w_iald gz_182_257 is_179 rd_78 (by omega) (by omega) (fun v14 ev14 pv14 qv14 => ?_)
        refine w_iast gz_182_258 is_175 rd_74 (by omega) (by omega) (by omega) (by omega) (fun h15 fh15 => ?_)
        have gh15 : my_fr [(10, 27), (73, -1), (74, -1), (75, -1), (77, -1), (78, -1), (79, -1)] h h15 := my_fr.up gh9 is_175 fh15 rfl
        refine w_aload_n gz_182_259 rfl ?_
        refine w_getX (v := 176) gz_182_260 is_151 rd_10 rfl (by decide) rfl ?_
        refine w_iload_n gz_182_263 rfl ?_
        refine w_aload_n gz_182_264 rfl ?_
        refine w_getX (v := 180) gz_182_265 is_151 rd_10 rfl (by decide) rfl ?_
        refine w_aload_n gz_182_268 rfl ?_
        refine w_getX (v := 172) gz_182_269 is_151 rd_10 rfl (by decide) rfl ?_
        refine w_bipush gz_182_272 (by decide) ?_
        refine w_iload_n gz_182_274 rfl ?_
        refine w_imul gz_182_275 ⟨by omega, by omega⟩ ?_
        refine w_iload_n gz_182_276 rfl ?_
        refine w_iadd gz_182_277 ⟨by omega, by omega⟩ ?_
        refine w_iald gz_182_278 is_172 rd_71 (by omega) (by omega) (fun v19 ev19 pv19 qv19 => ?_)
        refine w_bald gz_182_279 is_180 rd_79 (by omega) (by omega) (fun v20 ev20 pv20 qv20 => ?_)
        refine w_bast gz_182_280 is_176 rd_75 (by omega) (by omega) (by omega) (by omega) (fun h21 fh21 => ?_)
        have gh21 : my_fr [(10, 27), (73, -1), (74, -1), (75, -1), (77, -1), (78, -1), (79, -1)] h h21 := my_fr.up gh15 is_176 fh21 rfl
        refine w_iinc (ls' := [(2, 151), (0, x1), (0, (p207_0 + 1))]) gz_182_281 rfl gm_182 rfl rfl rfl ⟨by omega, by omega⟩ ?_
        refine w_goto (t := 207) gz_182_284 rfl ?_
        have ce22 : h21 151 27 = v1 := ((my_up_role fh21 is_151 is_176 rfl).trans ((my_up_role fh15 is_151 is_175 rfl).trans ((my_up_role fh9 is_151 is_174 rfl).trans ev1.symm)))
        exact ih_207_0 ((p207_0 + 1)) (v1) h21 (gh21) (by omega) (by omega) (by omega) (by omega) (by omega) (((my_up_role fh21 is_151 is_176 rfl).trans ((my_up_role fh15 is_151 is_175 rfl).trans ((my_up_role fh9 is_151 is_174 rfl).trans ev1.symm))).trans (by omega)) (by first | omega | (subst_vars; omega)) (by first | omega | (subst_vars; omega)) (by omega)
  have J145_0 : ∀ (n : Nat) (p145_0 : Int) (h145_0 : my_H), my_fr [(10, 27), (73, -1), (74, -1), (75, -1), (77, -1), (78, -1), (79, -1)] h h145_0 → 0 ≤ p145_0 → p145_0 ≤ 8 → p145_0 ≤ k151_27 → h145_0 151 27 = k151_27 → h 168 x1 = 3 → 9 - p145_0 ≤ (n : Int) → wp l rho d 182 145 [(2, 151), (0, x1), (0, p145_0)] [] h145_0 Q := by
    intro n
    induction n with
    | zero => intro p145_0 h145_0 gh_145_0 q0_145_0 q1_145_0 q2_145_0 c151_27_145_0 k3_145_0 hm_145_0; exfalso; omega
    | succ n ih_145_0 =>
      intro p145_0 h145_0 gh_145_0 q0_145_0 q1_145_0 q2_145_0 c151_27_145_0 k3_145_0 hm_145_0
      refine w_iload_n gz_182_145 rfl ?_
      refine w_aload_n gz_182_146 rfl ?_
      refine v_getI (j := 27) gz_182_147 rfl is_151 rd_10 rfl (fun v23 ev23 pv23 qv23 => ?_)
      have zv23 := ev23.trans c151_27_145_0
      refine w_icge (t := 195) gz_182_150 rfl (fun u24 => ?_) (fun u24 => ?_)
      ·
        refine w_aload_n gz_182_195 rfl ?_
        refine w_aload_n gz_182_196 rfl ?_
        refine w_getX (v := 171) gz_182_197 is_151 rd_10 rfl (by decide) rfl ?_
        refine w_iload_n gz_182_200 rfl ?_
        refine w_iald gz_182_201 is_171 rd_70 (by omega) (by omega) (fun v26 ev26 pv26 qv26 => ?_)
        have a171 : h145_0 171 x1 = h 171 x1 := my_fr.at gh_145_0 is_171 rfl
        refine v_putI (j := 27) gz_182_202 rfl is_151 rd_10 rfl (by omega) (by omega) rfl (fun h27 fh27 => ?_)
        have gh27 : my_fr [(10, 27), (73, -1), (74, -1), (75, -1), (77, -1), (78, -1), (79, -1)] h h27 := my_fr.up gh_145_0 is_151 fh27 rfl
        refine w_iconst gz_182_205 (by decide) ?_
        refine w_istore_n (ls' := [(2, 151), (0, x1), (0, 0)]) gz_182_206 gm_182 rfl rfl rfl ?_
        have ce28 : h27 151 27 = v26 := (my_up_self fh27)
        exact J207_0 9 (0) (v26) h27 (gh27) (by omega) (by omega) (by omega) (by omega) (by omega) ((my_up_self fh27).trans (by omega)) (by first | omega | (subst_vars; omega)) (by first | omega | (subst_vars; omega)) (by omega)
      ·
        refine w_aload_n gz_182_153 rfl ?_
        refine w_getX (v := 178) gz_182_154 is_151 rd_10 rfl (by decide) rfl ?_
        refine w_iload_n gz_182_157 rfl ?_
        refine w_aload_n gz_182_158 rfl ?_
        refine w_getX (v := 174) gz_182_159 is_151 rd_10 rfl (by decide) rfl ?_
        refine w_iload_n gz_182_162 rfl ?_
        refine w_iald gz_182_163 is_174 rd_73 (by omega) (by omega) (fun v31 ev31 pv31 qv31 => ?_)
        refine w_iast gz_182_164 is_178 rd_77 (by omega) (by omega) (by omega) (by omega) (fun h32 fh32 => ?_)
        have gh32 : my_fr [(10, 27), (73, -1), (74, -1), (75, -1), (77, -1), (78, -1), (79, -1)] h h32 := my_fr.up gh_145_0 is_178 fh32 rfl
        refine w_aload_n gz_182_165 rfl ?_
        refine w_getX (v := 179) gz_182_166 is_151 rd_10 rfl (by decide) rfl ?_
        refine w_iload_n gz_182_169 rfl ?_
        refine w_aload_n gz_182_170 rfl ?_
        refine w_getX (v := 175) gz_182_171 is_151 rd_10 rfl (by decide) rfl ?_
        refine w_iload_n gz_182_174 rfl ?_
        refine w_iald gz_182_175 is_175 rd_74 (by omega) (by omega) (fun v35 ev35 pv35 qv35 => ?_)
        refine w_iast gz_182_176 is_179 rd_78 (by omega) (by omega) (by omega) (by omega) (fun h36 fh36 => ?_)
        have gh36 : my_fr [(10, 27), (73, -1), (74, -1), (75, -1), (77, -1), (78, -1), (79, -1)] h h36 := my_fr.up gh32 is_179 fh36 rfl
        refine w_aload_n gz_182_177 rfl ?_
        refine w_getX (v := 180) gz_182_178 is_151 rd_10 rfl (by decide) rfl ?_
        refine w_iload_n gz_182_181 rfl ?_
        refine w_aload_n gz_182_182 rfl ?_
        refine w_getX (v := 176) gz_182_183 is_151 rd_10 rfl (by decide) rfl ?_
        refine w_iload_n gz_182_186 rfl ?_
        refine w_bald gz_182_187 is_176 rd_75 (by omega) (by omega) (fun v39 ev39 pv39 qv39 => ?_)
        refine w_bast gz_182_188 is_180 rd_79 (by omega) (by omega) (by omega) (by omega) (fun h40 fh40 => ?_)
        have gh40 : my_fr [(10, 27), (73, -1), (74, -1), (75, -1), (77, -1), (78, -1), (79, -1)] h h40 := my_fr.up gh36 is_180 fh40 rfl
        refine w_iinc (ls' := [(2, 151), (0, x1), (0, (p145_0 + 1))]) gz_182_189 rfl gm_182 rfl rfl rfl ⟨by omega, by omega⟩ ?_
        refine w_goto (t := 145) gz_182_192 rfl ?_
        exact ih_145_0 ((p145_0 + 1)) h40 (gh40) (by omega) (by omega) (by omega) (((my_up_role fh40 is_151 is_180 rfl).trans ((my_up_role fh36 is_151 is_179 rfl).trans ((my_up_role fh32 is_151 is_178 rfl).trans ev23.symm))).trans (by omega)) (by first | omega | (subst_vars; omega)) (by omega)
  have J64_0 : ∀ (n : Nat) (p64_0 p64_1 : Int) (h64_0 : my_H), my_fr [(10, 27), (73, -1), (74, -1), (75, -1), (77, -1), (78, -1), (79, -1)] h h64_0 → 1 ≤ p64_0 → p64_0 ≤ 4 → 0 ≤ p64_1 → p64_1 ≤ 8 → p64_0 ≤ (p64_1 + 1) → k151_27 ≤ p64_1 → h64_0 151 27 = p64_1 → h 168 x1 = 4 → h64_0 151 27 = h 151 27 + p64_0 - 1 → p64_0 ≤ h 157 (h 170 x1) → 5 - p64_0 ≤ (n : Int) → wp l rho d 182 64 [(2, 151), (0, x1), (0, p64_0)] [] h64_0 Q := by
    intro n
    induction n with
    | zero => intro p64_0 p64_1 h64_0 gh_64_0 q0_64_0 q1_64_0 q2_64_0 q3_64_0 q4_64_0 q5_64_0 c151_27_64_0 k4_64_0 wd_64_0 lc_64_0 hm_64_0; exfalso; omega
    | succ n ih_64_0 =>
      intro p64_0 p64_1 h64_0 gh_64_0 q0_64_0 q1_64_0 q2_64_0 q3_64_0 q4_64_0 q5_64_0 c151_27_64_0 k4_64_0 wd_64_0 lc_64_0 hm_64_0
      have a170 : h64_0 170 x1 = h 170 x1 := my_fr.at gh_64_0 is_170 rfl
      have a157 : h64_0 157 (h 170 x1) = h 157 (h 170 x1) := my_fr.at gh_64_0 is_157 rfl
      have pq := pj k4_64_0
      refine w_iload_n gz_182_64 rfl ?_
      refine w_aload_n gz_182_65 rfl ?_
      refine w_getX (v := 157) gz_182_66 is_151 rd_10 rfl (by decide) rfl ?_
      refine w_aload_n gz_182_69 rfl ?_
      refine w_getX (v := 170) gz_182_70 is_151 rd_10 rfl (by decide) rfl ?_
      refine w_iload_n gz_182_73 rfl ?_
      refine w_iald gz_182_74 is_170 rd_69 (by omega) (by omega) (fun v43 ev43 pv43 qv43 => ?_)
      have a170b : h64_0 170 x1 = h 170 x1 := my_fr.at gh_64_0 is_170 rfl
      have e75 : v43 = h 170 x1 := by omega
      have f75 : h64_0 157 v43 = h 157 v43 := my_fr.at gh_64_0 is_157 rfl
      have pq2 := pj k4_64_0
      have hi44 : 0 ≤ v43 := by omega
      have hi45 : v43 ≤ 2 := by omega
      refine w_iald gz_182_75 is_157 rd_56 (by omega) (by omega) (fun v46 ev46 pv46 qv46 => ?_)
      have a76 : v46 = h 157 (h 170 x1) := by rw [← e75]; omega
      refine w_icge (t := 130) gz_182_76 rfl (fun u47 => ?_) (fun u47 => ?_)
      ·
        refine w_goto (t := 287) gz_182_130 rfl ?_
        have ce48 : h64_0 151 27 = p64_1 := c151_27_64_0
        exact w_vret gz_182_287 gm_182 (k0 h64_0 (gh_64_0) (by unfold ms; (repeat (first | rw [if_pos (by omega)] | rw [if_neg (by omega)])); (try omega)))
      ·
        refine w_aload_n gz_182_79 rfl ?_
        refine w_getX (v := 174) gz_182_80 is_151 rd_10 rfl (by decide) rfl ?_
        refine w_aload_n gz_182_83 rfl ?_
        refine v_getI (j := 27) gz_182_84 rfl is_151 rd_10 rfl (fun v50 ev50 pv50 qv50 => ?_)
        have zv50 := ev50.trans c151_27_64_0
        refine w_aload_n gz_182_87 rfl ?_
        refine w_getX (v := 170) gz_182_88 is_151 rd_10 rfl (by decide) rfl ?_
        refine w_iload_n gz_182_91 rfl ?_
        refine w_iald gz_182_92 is_170 rd_69 (by omega) (by omega) (fun v52 ev52 pv52 qv52 => ?_)
        have zv52 := ev52.trans ev43.symm
        have hi53 : 0 ≤ v50 := by first | omega | (subst_vars; omega) | grind
        have hi54 : v50 ≤ 7 := by first | omega | (subst_vars; omega) | grind
        refine w_iast gz_182_93 is_174 rd_73 (by omega) (by omega) (by omega) (by omega) (fun h55 fh55 => ?_)
        have gh55 : my_fr [(10, 27), (73, -1), (74, -1), (75, -1), (77, -1), (78, -1), (79, -1)] h h55 := my_fr.up gh_64_0 is_174 fh55 rfl
        refine w_aload_n gz_182_94 rfl ?_
        refine w_getX (v := 175) gz_182_95 is_151 rd_10 rfl (by decide) rfl ?_
        refine w_aload_n gz_182_98 rfl ?_
        refine v_getI (j := 27) gz_182_99 rfl is_151 rd_10 rfl (fun v57 ev57 pv57 qv57 => ?_)
        have zv57 := ev57.trans ((my_up_role fh55 is_151 is_174 rfl).trans ev50.symm)
        refine w_iload_n gz_182_102 rfl ?_
        refine w_iast gz_182_103 is_175 rd_74 (by omega) (by omega) (by omega) (by omega) (fun h58 fh58 => ?_)
        have gh58 : my_fr [(10, 27), (73, -1), (74, -1), (75, -1), (77, -1), (78, -1), (79, -1)] h h58 := my_fr.up gh55 is_175 fh58 rfl
        refine w_aload_n gz_182_104 rfl ?_
        refine w_getX (v := 176) gz_182_105 is_151 rd_10 rfl (by decide) rfl ?_
        refine w_aload_n gz_182_108 rfl ?_
        refine v_getI (j := 27) gz_182_109 rfl is_151 rd_10 rfl (fun v60 ev60 pv60 qv60 => ?_)
        have zv60 := ev60.trans ((my_up_role fh58 is_151 is_175 rfl).trans ev57.symm)
        refine w_iconst gz_182_112 (by decide) ?_
        refine w_bast gz_182_113 is_176 rd_75 (by omega) (by omega) (by omega) (by omega) (fun h61 fh61 => ?_)
        have gh61 : my_fr [(10, 27), (73, -1), (74, -1), (75, -1), (77, -1), (78, -1), (79, -1)] h h61 := my_fr.up gh58 is_176 fh61 rfl
        refine w_aload_n gz_182_114 rfl ?_
        refine w_dup gz_182_115 rfl ?_
        refine v_getI (j := 27) gz_182_116 rfl is_151 rd_10 rfl (fun v62 ev62 pv62 qv62 => ?_)
        have zv62 := ev62.trans ((my_up_role fh61 is_151 is_176 rfl).trans ev60.symm)
        refine w_iconst gz_182_119 (by decide) ?_
        refine w_iadd gz_182_120 ⟨by omega, by omega⟩ ?_
        refine v_putI (j := 27) gz_182_121 rfl is_151 rd_10 rfl (by omega) (by omega) rfl (fun h63 fh63 => ?_)
        have gh63 : my_fr [(10, 27), (73, -1), (74, -1), (75, -1), (77, -1), (78, -1), (79, -1)] h h63 := my_fr.up gh61 is_151 fh63 rfl
        refine w_iinc (ls' := [(2, 151), (0, x1), (0, (p64_0 + 1))]) gz_182_124 rfl gm_182 rfl rfl rfl ⟨by omega, by omega⟩ ?_
        refine w_goto (t := 64) gz_182_127 rfl ?_
        have ce64 : h63 151 27 = (v62 + 1) := (my_up_self fh63)
        exact ih_64_0 ((p64_0 + 1)) ((v62 + 1)) h63 (gh63) (by omega) (by omega) (by omega) (by omega) (by omega) (by omega) ((my_up_self fh63).trans (by omega)) (by first | omega | (subst_vars; omega)) (by first | omega | (subst_vars; omega)) (by first | omega | (subst_vars; omega)) (by omega)
  have J17_0 : ∀ (n : Nat) (p17_0 : Int) (h17_0 : my_H), my_fr [(10, 27), (73, -1), (74, -1), (75, -1), (77, -1), (78, -1), (79, -1)] h h17_0 → 0 ≤ p17_0 → p17_0 ≤ 2 → h17_0 151 27 = 2 → h 168 x1 = 5 → h17_0 151 27 = 2 → 3 - p17_0 ≤ (n : Int) → wp l rho d 182 17 [(2, 151), (0, x1), (0, p17_0)] [] h17_0 Q := by
    intro n
    induction n with
    | zero => intro p17_0 h17_0 gh_17_0 q0_17_0 q1_17_0 c151_27_17_0 k5_17_0 w5_17_0 hm_17_0; exfalso; omega
    | succ n ih_17_0 =>
      intro p17_0 h17_0 gh_17_0 q0_17_0 q1_17_0 c151_27_17_0 k5_17_0 w5_17_0 hm_17_0
      refine w_iload_n gz_182_17 rfl ?_
      refine w_iconst gz_182_18 (by decide) ?_
      refine w_icge (t := 49) gz_182_19 rfl (fun u65 => ?_) (fun u65 => ?_)
      ·
        refine w_goto (t := 287) gz_182_49 rfl ?_
        have ce66 : h17_0 151 27 = 2 := c151_27_17_0
        exact w_vret gz_182_287 gm_182 (k0 h17_0 (gh_17_0) (by unfold ms; (repeat (first | rw [if_pos (by omega)] | rw [if_neg (by omega)])); (try omega)))
      ·
        refine w_aload_n gz_182_22 rfl ?_
        refine w_getX (v := 174) gz_182_23 is_151 rd_10 rfl (by decide) rfl ?_
        refine w_iload_n gz_182_26 rfl ?_
        refine w_iconst gz_182_27 (by decide) ?_
        refine w_iast gz_182_28 is_174 rd_73 (by omega) (by omega) (by omega) (by omega) (fun h68 fh68 => ?_)
        have gh68 : my_fr [(10, 27), (73, -1), (74, -1), (75, -1), (77, -1), (78, -1), (79, -1)] h h68 := my_fr.up gh_17_0 is_174 fh68 rfl
        refine w_aload_n gz_182_29 rfl ?_
        refine w_getX (v := 175) gz_182_30 is_151 rd_10 rfl (by decide) rfl ?_
        refine w_iload_n gz_182_33 rfl ?_
        refine w_iconst gz_182_34 (by decide) ?_
        refine w_iast gz_182_35 is_175 rd_74 (by omega) (by omega) (by omega) (by omega) (fun h70 fh70 => ?_)
        have gh70 : my_fr [(10, 27), (73, -1), (74, -1), (75, -1), (77, -1), (78, -1), (79, -1)] h h70 := my_fr.up gh68 is_175 fh70 rfl
        refine w_aload_n gz_182_36 rfl ?_
        refine w_getX (v := 176) gz_182_37 is_151 rd_10 rfl (by decide) rfl ?_
        refine w_iload_n gz_182_40 rfl ?_
        refine w_iconst gz_182_41 (by decide) ?_
        refine w_bast gz_182_42 is_176 rd_75 (by omega) (by omega) (by omega) (by omega) (fun h72 fh72 => ?_)
        have gh72 : my_fr [(10, 27), (73, -1), (74, -1), (75, -1), (77, -1), (78, -1), (79, -1)] h h72 := my_fr.up gh70 is_176 fh72 rfl
        refine w_iinc (ls' := [(2, 151), (0, x1), (0, (p17_0 + 1))]) gz_182_43 rfl gm_182 rfl rfl rfl ⟨by omega, by omega⟩ ?_
        refine w_goto (t := 17) gz_182_46 rfl ?_
        have ce73 : h72 151 27 = 2 := ((my_up_role fh72 is_151 is_176 rfl).trans ((my_up_role fh70 is_151 is_175 rfl).trans ((my_up_role fh68 is_151 is_174 rfl).trans c151_27_17_0)))
        exact ih_17_0 ((p17_0 + 1)) h72 (gh72) (by omega) (by omega) (((my_up_role fh72 is_151 is_176 rfl).trans ((my_up_role fh70 is_151 is_175 rfl).trans ((my_up_role fh68 is_151 is_174 rfl).trans c151_27_17_0))).trans (by omega)) (by first | omega | (subst_vars; omega)) (by first | omega | (subst_vars; omega)) (by omega)
  refine w_aload_n gz_182_0 rfl ?_
  refine w_getX (v := 168) gz_182_1 is_151 rd_10 rfl (by decide) rfl ?_
  refine w_iload_n gz_182_4 rfl ?_
  refine w_iald gz_182_5 is_168 rd_67 (by omega) (by omega) (fun v75 ev75 pv75 qv75 => ?_)
  refine w_iconst gz_182_6 (by decide) ?_
  refine w_icne (t := 52) gz_182_7 rfl (fun u76 => ?_) (fun u76 => ?_)
  ·
    refine w_aload_n gz_182_52 rfl ?_
    refine w_getX (v := 168) gz_182_53 is_151 rd_10 rfl (by decide) rfl ?_
    refine w_iload_n gz_182_56 rfl ?_
    refine w_iald gz_182_57 is_168 rd_67 (by omega) (by omega) (fun v78 ev78 pv78 qv78 => ?_)
    have zv78 := ev78.trans ev75.symm
    refine w_iconst gz_182_58 (by decide) ?_
    refine w_icne (t := 133) gz_182_59 rfl (fun u79 => ?_) (fun u79 => ?_)
    ·
      refine w_aload_n gz_182_133 rfl ?_
      refine w_getX (v := 168) gz_182_134 is_151 rd_10 rfl (by decide) rfl ?_
      refine w_iload_n gz_182_137 rfl ?_
      refine w_iald gz_182_138 is_168 rd_67 (by omega) (by omega) (fun v81 ev81 pv81 qv81 => ?_)
      have zv81 := ev81.trans ev78.symm
      refine w_iconst gz_182_139 (by decide) ?_
      refine w_icne (t := 287) gz_182_140 rfl (fun u82 => ?_) (fun u82 => ?_)
      ·
        have ce83 : h 151 27 = k151_27 := ek151_27.symm
        exact w_vret gz_182_287 gm_182 (k0 h (my_fr.rf) (by unfold ms; (repeat (first | rw [if_pos (by omega)] | rw [if_neg (by omega)])); (try omega)))
      ·
        refine w_iconst gz_182_143 (by decide) ?_
        refine w_istore_n (ls' := [(2, 151), (0, x1), (0, 0)]) gz_182_144 gm_182 rfl rfl rfl ?_
        exact J145_0 9 (0) h (my_fr.rf) (by omega) (by omega) (by omega) (ek151_27.symm.trans (by omega)) (by first | omega | (subst_vars; omega)) (by omega)
    ·
      refine w_iconst gz_182_62 (by decide) ?_
      refine w_istore_n (ls' := [(2, 151), (0, x1), (0, 1)]) gz_182_63 gm_182 rfl rfl rfl ?_
      have ce84 : h 151 27 = k151_27 := ek151_27.symm
      exact J64_0 4 (1) (k151_27) h (my_fr.rf) (by omega) (by omega) (by omega) (by omega) (by omega) (by omega) (ek151_27.symm.trans (by omega)) (by first | omega | (subst_vars; omega)) (by first | omega | (subst_vars; omega)) (by first | omega | (subst_vars; omega)) (by omega)
  ·
    refine w_aload_n gz_182_10 rfl ?_
    refine w_iconst gz_182_11 (by decide) ?_
    refine v_putI (j := 27) gz_182_12 rfl is_151 rd_10 rfl (by omega) (by omega) rfl (fun h85 fh85 => ?_)
    have gh85 : my_fr [(10, 27), (73, -1), (74, -1), (75, -1), (77, -1), (78, -1), (79, -1)] h h85 := my_fr.up my_fr.rf is_151 fh85 rfl
    refine w_iconst gz_182_15 (by decide) ?_
    refine w_istore_n (ls' := [(2, 151), (0, x1), (0, 0)]) gz_182_16 gm_182 rfl rfl rfl ?_
    have ce86 : h85 151 27 = 2 := (my_up_self fh85)
    exact J17_0 3 (0) h85 (gh85) (by omega) (by omega) ((my_up_self fh85).trans (by omega)) (by first | omega | (subst_vars; omega)) (by first | omega | (subst_vars; omega)) (by omega)
theorem c_Reader_nextToken_f0 {l : Launch} {rho : Nat → Int32} {d : Nat} {h : my_H} {Q : my_H → my_V → Prop} (cf : h 82 9 = 0) (k0 : ∀ (h' : my_H), my_fr [(5, 5), (5, 6), (5, 7), (5, 8)] h h' → 0 ≤ h' 82 6 → h' 82 6 ≤ 4 → h' 82 9 = 0 → Q h' (9, 0)) : wp l rho (d + 1) 37 0 [(2, 82), (9, 0), (9, 0)] [] h Q := by
  refine v_know (x := 82) (j := 4) (b := 4) rfl is_82 rd_5 rfl (fun k82_4 ek82_4 pk82_4 qk82_4 => ?_)
  refine v_know (x := 82) (j := 5) (b := 5) rfl is_82 rd_5 rfl (fun k82_5 ek82_5 pk82_5 qk82_5 => ?_)
  have J181_0 : ∀ (n : Nat) (p181_0 p181_1 p181_2 p181_3 p181_4 p181_5 : Int) (h181_0 : my_H), my_fr [(5, 5), (5, 6), (5, 7), (5, 8)] h h181_0 → 1 ≤ p181_0 → p181_0 ≤ 8 → 1 ≤ p181_1 → p181_1 ≤ 1000 → 1 ≤ k82_4 → 0 ≤ p181_4 → p181_4 ≤ 999 → 1 ≤ p181_3 → p181_3 ≤ 4 → 0 ≤ p181_5 → p181_5 ≤ 999 → 0 ≤ p181_2 → p181_2 ≤ 1000 → k82_5 ≤ 999 → p181_4 ≤ (p181_1 - 1) → p181_4 ≤ p181_2 → p181_2 ≤ p181_1 → k82_5 ≤ (p181_1 - 1) → k82_5 ≤ p181_4 → k82_5 ≤ p181_2 → h181_0 82 4 = k82_4 → h181_0 82 5 = p181_2 → h181_0 82 6 = p181_3 → h181_0 82 7 = p181_4 → h181_0 82 8 = p181_5 → h181_0 82 9 = 0 → (h181_0 82 6 = 2 → p181_0 = 3) → (h181_0 82 6 = 2 → ∀ k : Int, h181_0 82 7 ≤ k → k < p181_1 → 48 ≤ h181_0 92 k ∧ h181_0 92 k ≤ 57) → h181_0 82 7 ≤ h181_0 82 5 → ((h181_0 82 5 = h181_0 82 7 → h181_0 82 8 = 0) ∧ (h181_0 82 5 = h181_0 82 7 + 1 → h181_0 82 8 ≤ 9) ∧ (h181_0 82 5 = h181_0 82 7 + 2 → h181_0 82 8 ≤ 99) ∧ 0 ≤ h181_0 82 8) → 1001 - h181_0 82 5 ≤ (n : Int) → wp l rho (d + 1) 37 181 [(2, 82), (0, p181_0), (0, p181_1)] [] h181_0 Q := by
    intro n
    induction n with
    | zero => intro p181_0 p181_1 p181_2 p181_3 p181_4 p181_5 h181_0 gh_181_0 q0_181_0 q1_181_0 q2_181_0 q3_181_0 q4_181_0 q5_181_0 q6_181_0 q7_181_0 q8_181_0 q9_181_0 q10_181_0 q11_181_0 q12_181_0 q13_181_0 q14_181_0 q15_181_0 q16_181_0 q17_181_0 q18_181_0 q19_181_0 c82_4_181_0 c82_5_181_0 c82_6_181_0 c82_7_181_0 c82_8_181_0 c82_9_181_0 tk_181_0 dg_181_0 se_181_0 nb_181_0 hm_181_0; exfalso; omega
    | succ n ih_181_0 =>
      intro p181_0 p181_1 p181_2 p181_3 p181_4 p181_5 h181_0 gh_181_0 q0_181_0 q1_181_0 q2_181_0 q3_181_0 q4_181_0 q5_181_0 q6_181_0 q7_181_0 q8_181_0 q9_181_0 q10_181_0 q11_181_0 q12_181_0 q13_181_0 q14_181_0 q15_181_0 q16_181_0 q17_181_0 q18_181_0 q19_181_0 c82_4_181_0 c82_5_181_0 c82_6_181_0 c82_7_181_0 c82_8_181_0 c82_9_181_0 tk_181_0 dg_181_0 se_181_0 nb_181_0 hm_181_0
      refine w_aload_n gz_37_181 rfl ?_
      refine v_getI (j := 5) gz_37_182 rfl is_82 rd_5 rfl (fun v1 ev1 pv1 qv1 => ?_)
      have zv1 := ev1.trans c82_5_181_0
      refine w_iload_n gz_37_185 rfl ?_
      refine w_icge (t := 247) gz_37_186 rfl (fun u2 => ?_) (fun u2 => ?_)
      ·
        refine w_iload_n gz_37_247 rfl ?_
        refine w_aload_n gz_37_248 rfl ?_
        refine v_getI (j := 7) gz_37_249 rfl is_82 rd_5 rfl (fun v3 ev3 pv3 qv3 => ?_)
        have zv3 := ev3.trans c82_7_181_0
        refine w_isub gz_37_252 ⟨by omega, by omega⟩ ?_
        refine w_iload_n gz_37_253 rfl ?_
        refine w_icle (t := 262) gz_37_254 rfl (fun u4 => ?_) (fun u4 => ?_)
        ·
          have c5 := c82_6_181_0
          have c6 := c82_9_181_0
          exact w_vret gz_37_262 gm_37 (k0 h181_0 (gh_181_0) (by omega) (by omega) (by omega))
        ·
          refine w_aload_n gz_37_257 rfl ?_
          refine w_iconst gz_37_258 (by decide) ?_
          refine v_putI (j := 6) gz_37_259 rfl is_82 rd_5 rfl (by omega) (by omega) rfl (fun h7 fh7 => ?_)
          have gh7 : my_fr [(5, 5), (5, 6), (5, 7), (5, 8)] h h7 := my_fr.up gh_181_0 is_82 fh7 rfl
          have c8 := (my_up_self fh7)
          have c9 := ((my_up_fld fh7 (by decide)).trans c82_9_181_0)
          exact w_vret gz_37_262 gm_37 (k0 h7 (gh7) (by omega) (by omega) (by omega))
      ·
        refine w_aload_n gz_37_189 rfl ?_
        refine v_getI (j := 6) gz_37_190 rfl is_82 rd_5 rfl (fun v10 ev10 pv10 qv10 => ?_)
        have zv10 := ev10.trans c82_6_181_0
        refine w_iconst gz_37_193 (by decide) ?_
        refine w_icne (t := 234) gz_37_194 rfl (fun u11 => ?_) (fun u11 => ?_)
        ·
          refine w_aload_n gz_37_234 rfl ?_
          refine w_dup gz_37_235 rfl ?_
          refine v_getI (j := 5) gz_37_236 rfl is_82 rd_5 rfl (fun v12 ev12 pv12 qv12 => ?_)
          have zv12 := ev12.trans ev1.symm
          refine w_iconst gz_37_239 (by decide) ?_
          refine w_iadd gz_37_240 ⟨by omega, by omega⟩ ?_
          refine v_putI (j := 5) gz_37_241 rfl is_82 rd_5 rfl (by omega) (by omega) rfl (fun h13 fh13 => ?_)
          have gh13 : my_fr [(5, 5), (5, 6), (5, 7), (5, 8)] h h13 := my_fr.up gh_181_0 is_82 fh13 rfl
          refine w_goto (t := 181) gz_37_244 rfl ?_
          have ce14 : h13 82 5 = (v12 + 1) := (my_up_self fh13)
          have ce15 : h13 82 6 = v10 := ((my_up_fld fh13 (by decide)).trans ev10.symm)
          have ce16 : h13 82 7 = p181_4 := ((my_up_fld fh13 (by decide)).trans c82_7_181_0)
          have ce17 : h13 82 8 = p181_5 := ((my_up_fld fh13 (by decide)).trans c82_8_181_0)
          have sg : ∀ j : Int, h13 92 j = h181_0 92 j := fun j => ((my_up_role fh13 is_92 is_82 rfl).trans (rfl : h181_0 92 j = h181_0 92 j))
          exact ih_181_0 (p181_0) (p181_1) ((v12 + 1)) (v10) (p181_4) (p181_5) h13 (gh13) (by omega) (by omega) (by omega) (by omega) (by omega) (by omega) (by omega) (by omega) (by omega) (by omega) (by omega) (by omega) (by omega) (by omega) (by omega) (by omega) (by omega) (by omega) (by omega) (by omega) (((my_up_fld fh13 (by decide)).trans c82_4_181_0).trans (by omega)) ((my_up_self fh13).trans (by omega)) (((my_up_fld fh13 (by decide)).trans ev10.symm).trans (by omega)) (((my_up_fld fh13 (by decide)).trans c82_7_181_0).trans (by omega)) (((my_up_fld fh13 (by decide)).trans c82_8_181_0).trans (by omega)) (((my_up_fld fh13 (by decide)).trans c82_9_181_0).trans (by omega)) (by omega) (by first | (intro t k a b; rw [sg]; exact dg_181_0 (by omega) k (by omega) (by omega)) | (intro t k a b; rw [sg]; exact dg_138_0 (by omega) k (by omega) (by omega)) | (intro t k a b; rw [sg, ← sg0, sgi k (by omega)]; omega) | (intro t; omega) | (intro t k a b; rw [sg]; rcases (by omega : k = p181_1 ∨ k < p181_1) with q | q <;> first | exact dg_138_0 (by omega) k (by omega) (by omega) | (subst q; omega))) (by first | assumption | omega | (subst_vars; omega)) (by first | assumption | omega | (subst_vars; omega)) (by omega)
        ·
          refine w_aload_n gz_37_197 rfl ?_
          refine v_getI (j := 5) gz_37_198 rfl is_82 rd_5 rfl (fun v18 ev18 pv18 qv18 => ?_)
          have zv18 := ev18.trans ev1.symm
          refine w_aload_n gz_37_201 rfl ?_
          refine v_getI (j := 7) gz_37_202 rfl is_82 rd_5 rfl (fun v19 ev19 pv19 qv19 => ?_)
          have zv19 := ev19.trans c82_7_181_0
          refine w_isub gz_37_205 ⟨by omega, by omega⟩ ?_
          refine w_iload_n gz_37_206 rfl ?_
          refine w_icge (t := 234) gz_37_207 rfl (fun u20 => ?_) (fun u20 => ?_)
          ·
            refine w_aload_n gz_37_234 rfl ?_
            refine w_dup gz_37_235 rfl ?_
            refine v_getI (j := 5) gz_37_236 rfl is_82 rd_5 rfl (fun v21 ev21 pv21 qv21 => ?_)
            have zv21 := ev21.trans ev18.symm
            refine w_iconst gz_37_239 (by decide) ?_
            refine w_iadd gz_37_240 ⟨by omega, by omega⟩ ?_
            refine v_putI (j := 5) gz_37_241 rfl is_82 rd_5 rfl (by omega) (by omega) rfl (fun h22 fh22 => ?_)
            have gh22 : my_fr [(5, 5), (5, 6), (5, 7), (5, 8)] h h22 := my_fr.up gh_181_0 is_82 fh22 rfl
            refine w_goto (t := 181) gz_37_244 rfl ?_
            have ce23 : h22 82 5 = (v21 + 1) := (my_up_self fh22)
            have ce24 : h22 82 6 = v10 := ((my_up_fld fh22 (by decide)).trans ev10.symm)
            have ce25 : h22 82 7 = v19 := ((my_up_fld fh22 (by decide)).trans ev19.symm)
            have ce26 : h22 82 8 = p181_5 := ((my_up_fld fh22 (by decide)).trans c82_8_181_0)
            have sg : ∀ j : Int, h22 92 j = h181_0 92 j := fun j => ((my_up_role fh22 is_92 is_82 rfl).trans (rfl : h181_0 92 j = h181_0 92 j))
            exact ih_181_0 (p181_0) (p181_1) ((v21 + 1)) (v10) (v19) (p181_5) h22 (gh22) (by omega) (by omega) (by omega) (by omega) (by omega) (by omega) (by omega) (by omega) (by omega) (by omega) (by omega) (by omega) (by omega) (by omega) (by omega) (by omega) (by omega) (by omega) (by omega) (by omega) (((my_up_fld fh22 (by decide)).trans c82_4_181_0).trans (by omega)) ((my_up_self fh22).trans (by omega)) (((my_up_fld fh22 (by decide)).trans ev10.symm).trans (by omega)) (((my_up_fld fh22 (by decide)).trans ev19.symm).trans (by omega)) (((my_up_fld fh22 (by decide)).trans c82_8_181_0).trans (by omega)) (((my_up_fld fh22 (by decide)).trans c82_9_181_0).trans (by omega)) (by omega) (by first | (intro t k a b; rw [sg]; exact dg_181_0 (by omega) k (by omega) (by omega)) | (intro t k a b; rw [sg]; exact dg_138_0 (by omega) k (by omega) (by omega)) | (intro t k a b; rw [sg, ← sg0, sgi k (by omega)]; omega) | (intro t; omega) | (intro t k a b; rw [sg]; rcases (by omega : k = p181_1 ∨ k < p181_1) with q | q <;> first | exact dg_138_0 (by omega) k (by omega) (by omega) | (subst q; omega))) (by first | assumption | omega | (subst_vars; omega)) (by first | assumption | omega | (subst_vars; omega)) (by omega)
          ·
            refine w_aload_n gz_37_210 rfl ?_
            refine w_bipush gz_37_211 (by decide) ?_
            refine w_aload_n gz_37_213 rfl ?_
            refine v_getI (j := 8) gz_37_214 rfl is_82 rd_5 rfl (fun v27 ev27 pv27 qv27 => ?_)
            have zv27 := ev27.trans c82_8_181_0
            refine w_imul gz_37_217 ⟨by omega, by omega⟩ ?_
            refine w_aload_n gz_37_218 rfl ?_
            refine w_getX (v := 92) gz_37_219 is_82 rd_5 rfl (by decide) rfl ?_
            refine w_aload_n gz_37_222 rfl ?_
            refine v_getI (j := 5) gz_37_223 rfl is_82 rd_5 rfl (fun v29 ev29 pv29 qv29 => ?_)
            have zv29 := ev29.trans ev18.symm
            have dd := dg_181_0 (by omega) v29 (by omega) (by omega)
            refine w_yald gz_37_226 is_92 rd_40 (by omega) (by omega) (fun v30 ev30 pv30 qv30 => ?_)
            refine w_iadd gz_37_227 ⟨by omega, by omega⟩ ?_
            refine w_bipush gz_37_228 (by decide) ?_
            refine w_isub gz_37_230 ⟨by omega, by omega⟩ ?_
            have hi31 : 0 ≤ (((10 * v27) + v30) - 48) := by omega
            have hi32 : (((10 * v27) + v30) - 48) ≤ 999 := by omega
            refine v_putI (j := 8) gz_37_231 rfl is_82 rd_5 rfl (by omega) (by omega) rfl (fun h33 fh33 => ?_)
            have gh33 : my_fr [(5, 5), (5, 6), (5, 7), (5, 8)] h h33 := my_fr.up gh_181_0 is_82 fh33 rfl
            refine w_aload_n gz_37_234 rfl ?_
            refine w_dup gz_37_235 rfl ?_
            refine v_getI (j := 5) gz_37_236 rfl is_82 rd_5 rfl (fun v34 ev34 pv34 qv34 => ?_)
            have zv34 := ev34.trans ((my_up_fld fh33 (by decide)).trans ev29.symm)
            refine w_iconst gz_37_239 (by decide) ?_
            refine w_iadd gz_37_240 ⟨by omega, by omega⟩ ?_
            refine v_putI (j := 5) gz_37_241 rfl is_82 rd_5 rfl (by omega) (by omega) rfl (fun h35 fh35 => ?_)
            have gh35 : my_fr [(5, 5), (5, 6), (5, 7), (5, 8)] h h35 := my_fr.up gh33 is_82 fh35 rfl
            refine w_goto (t := 181) gz_37_244 rfl ?_
            have ce36 : h35 82 5 = (v34 + 1) := (my_up_self fh35)
            have ce37 : h35 82 6 = v10 := ((my_up_fld fh35 (by decide)).trans ((my_up_fld fh33 (by decide)).trans ev10.symm))
            have ce38 : h35 82 7 = v19 := ((my_up_fld fh35 (by decide)).trans ((my_up_fld fh33 (by decide)).trans ev19.symm))
            have ce39 : h35 82 8 = (((10 * v27) + v30) - 48) := ((my_up_fld fh35 (by decide)).trans (my_up_self fh33))
            have sg : ∀ j : Int, h35 92 j = h181_0 92 j := fun j => ((my_up_role fh35 is_92 is_82 rfl).trans ((my_up_role fh33 is_92 is_82 rfl).trans (rfl : h181_0 92 j = h181_0 92 j)))
            exact ih_181_0 (p181_0) (p181_1) ((v34 + 1)) (v10) (v19) ((((10 * v27) + v30) - 48)) h35 (gh35) (by omega) (by omega) (by omega) (by omega) (by omega) (by omega) (by omega) (by omega) (by omega) (by omega) (by omega) (by omega) (by omega) (by omega) (by omega) (by omega) (by omega) (by omega) (by omega) (by omega) (((my_up_fld fh35 (by decide)).trans ((my_up_fld fh33 (by decide)).trans c82_4_181_0)).trans (by omega)) ((my_up_self fh35).trans (by omega)) (((my_up_fld fh35 (by decide)).trans ((my_up_fld fh33 (by decide)).trans ev10.symm)).trans (by omega)) (((my_up_fld fh35 (by decide)).trans ((my_up_fld fh33 (by decide)).trans ev19.symm)).trans (by omega)) (((my_up_fld fh35 (by decide)).trans (my_up_self fh33)).trans (by omega)) (((my_up_fld fh35 (by decide)).trans ((my_up_fld fh33 (by decide)).trans c82_9_181_0)).trans (by omega)) (by omega) (by first | (intro t k a b; rw [sg]; exact dg_181_0 (by omega) k (by omega) (by omega)) | (intro t k a b; rw [sg]; exact dg_138_0 (by omega) k (by omega) (by omega)) | (intro t k a b; rw [sg, ← sg0, sgi k (by omega)]; omega) | (intro t; omega) | (intro t k a b; rw [sg]; rcases (by omega : k = p181_1 ∨ k < p181_1) with q | q <;> first | exact dg_138_0 (by omega) k (by omega) (by omega) | (subst q; omega))) (by first | assumption | omega | (subst_vars; omega)) (by first | assumption | omega | (subst_vars; omega)) (by omega)
  have J138_0 : ∀ (n : Nat) (p138_0 p138_1 p138_2 p138_3 : Int) (h138_0 : my_H), my_fr [(5, 5), (5, 6), (5, 7), (5, 8)] h h138_0 → 1 ≤ p138_0 → p138_0 ≤ 8 → 1 ≤ p138_1 → p138_1 ≤ 1000 → 1 ≤ k82_4 → 0 ≤ p138_2 → p138_2 ≤ 999 → 1 ≤ p138_3 → p138_3 ≤ 4 → k82_5 ≤ 999 → p138_1 ≤ k82_4 → p138_2 ≤ (p138_1 - 1) → p138_2 ≤ (k82_4 - 1) → k82_5 ≤ (p138_1 - 1) → k82_5 ≤ p138_2 → k82_5 ≤ (k82_4 - 1) → h138_0 82 4 = k82_4 → h138_0 82 5 = p138_2 → h138_0 82 6 = p138_3 → h138_0 82 7 = p138_2 → h138_0 82 8 = 0 → h138_0 82 9 = 0 → (h138_0 82 6 = 2 → p138_0 = 3) → (h138_0 82 6 = 2 → ∀ k : Int, h138_0 82 7 ≤ k → k < p138_1 → 48 ≤ h138_0 92 k ∧ h138_0 92 k ≤ 57) → h138_0 82 7 + 1 ≤ p138_1 → h138_0 82 8 = 0 → p138_1 ≤ 1000 → 1001 - p138_1 ≤ (n : Int) → wp l rho (d + 1) 37 138 [(2, 82), (0, p138_0), (0, p138_1)] [] h138_0 Q := by
    intro n
    induction n with
    | zero => intro p138_0 p138_1 p138_2 p138_3 h138_0 gh_138_0 q0_138_0 q1_138_0 q2_138_0 q3_138_0 q4_138_0 q5_138_0 q6_138_0 q7_138_0 q8_138_0 q9_138_0 q10_138_0 q11_138_0 q12_138_0 q13_138_0 q14_138_0 q15_138_0 c82_4_138_0 c82_5_138_0 c82_6_138_0 c82_7_138_0 c82_8_138_0 c82_9_138_0 tk_138_0 dg_138_0 sn_138_0 n0_138_0 lm_138_0 hm_138_0; exfalso; omega
    | succ n ih_138_0 =>
      intro p138_0 p138_1 p138_2 p138_3 h138_0 gh_138_0 q0_138_0 q1_138_0 q2_138_0 q3_138_0 q4_138_0 q5_138_0 q6_138_0 q7_138_0 q8_138_0 q9_138_0 q10_138_0 q11_138_0 q12_138_0 q13_138_0 q14_138_0 q15_138_0 c82_4_138_0 c82_5_138_0 c82_6_138_0 c82_7_138_0 c82_8_138_0 c82_9_138_0 tk_138_0 dg_138_0 sn_138_0 n0_138_0 lm_138_0 hm_138_0
      refine w_iload_n gz_37_138 rfl ?_
      refine w_aload_n gz_37_139 rfl ?_
      refine v_getI (j := 4) gz_37_140 rfl is_82 rd_5 rfl (fun v40 ev40 pv40 qv40 => ?_)
      have zv40 := ev40.trans c82_4_138_0
      refine w_icge (t := 173) gz_37_143 rfl (fun u41 => ?_) (fun u41 => ?_)
      ·
        refine w_aload_n gz_37_173 rfl ?_
        refine w_aload_n gz_37_174 rfl ?_
        refine v_getI (j := 7) gz_37_175 rfl is_82 rd_5 rfl (fun v42 ev42 pv42 qv42 => ?_)
        have zv42 := ev42.trans c82_7_138_0
        refine v_putI (j := 5) gz_37_178 rfl is_82 rd_5 rfl (by omega) (by omega) rfl (fun h43 fh43 => ?_)
        have gh43 : my_fr [(5, 5), (5, 6), (5, 7), (5, 8)] h h43 := my_fr.up gh_138_0 is_82 fh43 rfl
        have ce44 : h43 82 5 = v42 := (my_up_self fh43)
        have ce45 : h43 82 6 = p138_3 := ((my_up_fld fh43 (by decide)).trans c82_6_138_0)
        have ce46 : h43 82 7 = v42 := ((my_up_fld fh43 (by decide)).trans ev42.symm)
        have ce47 : h43 82 8 = 0 := ((my_up_fld fh43 (by decide)).trans c82_8_138_0)
        have sg : ∀ j : Int, h43 92 j = h138_0 92 j := fun j => ((my_up_role fh43 is_92 is_82 rfl).trans (rfl : h138_0 92 j = h138_0 92 j))
        exact J181_0 (1001) (p138_0) (p138_1) (v42) (p138_3) (v42) (0) h43 (gh43) (by omega) (by omega) (by omega) (by omega) (by omega) (by omega) (by omega) (by omega) (by omega) (by omega) (by omega) (by omega) (by omega) (by omega) (by omega) (by omega) (by omega) (by omega) (by omega) (by omega) (((my_up_fld fh43 (by decide)).trans ev40.symm).trans (by omega)) ((my_up_self fh43).trans (by omega)) (((my_up_fld fh43 (by decide)).trans c82_6_138_0).trans (by omega)) (((my_up_fld fh43 (by decide)).trans ev42.symm).trans (by omega)) (((my_up_fld fh43 (by decide)).trans c82_8_138_0).trans (by omega)) (((my_up_fld fh43 (by decide)).trans c82_9_138_0).trans (by omega)) (by omega) (by first | (intro t k a b; rw [sg]; exact dg_181_0 (by omega) k (by omega) (by omega)) | (intro t k a b; rw [sg]; exact dg_138_0 (by omega) k (by omega) (by omega)) | (intro t k a b; rw [sg, ← sg0, sgi k (by omega)]; omega) | (intro t; omega) | (intro t k a b; rw [sg]; rcases (by omega : k = p181_1 ∨ k < p181_1) with q | q <;> first | exact dg_138_0 (by omega) k (by omega) (by omega) | (subst q; omega))) (by first | assumption | omega | (subst_vars; omega)) (by first | assumption | omega | (subst_vars; omega)) (by omega)
      ·
        refine w_iload_n gz_37_146 rfl ?_
        refine w_iconst gz_37_147 (by decide) ?_
        refine w_icle (t := 173) gz_37_148 rfl (fun u48 => ?_) (fun u48 => ?_)
        ·
          refine w_aload_n gz_37_173 rfl ?_
          refine w_aload_n gz_37_174 rfl ?_
          refine v_getI (j := 7) gz_37_175 rfl is_82 rd_5 rfl (fun v49 ev49 pv49 qv49 => ?_)
          have zv49 := ev49.trans c82_7_138_0
          refine v_putI (j := 5) gz_37_178 rfl is_82 rd_5 rfl (by omega) (by omega) rfl (fun h50 fh50 => ?_)
          have gh50 : my_fr [(5, 5), (5, 6), (5, 7), (5, 8)] h h50 := my_fr.up gh_138_0 is_82 fh50 rfl
          have ce51 : h50 82 5 = v49 := (my_up_self fh50)
          have ce52 : h50 82 6 = p138_3 := ((my_up_fld fh50 (by decide)).trans c82_6_138_0)
          have ce53 : h50 82 7 = v49 := ((my_up_fld fh50 (by decide)).trans ev49.symm)
          have ce54 : h50 82 8 = 0 := ((my_up_fld fh50 (by decide)).trans c82_8_138_0)
          have sg : ∀ j : Int, h50 92 j = h138_0 92 j := fun j => ((my_up_role fh50 is_92 is_82 rfl).trans (rfl : h138_0 92 j = h138_0 92 j))
          exact J181_0 (1001) (p138_0) (p138_1) (v49) (p138_3) (v49) (0) h50 (gh50) (by omega) (by omega) (by omega) (by omega) (by omega) (by omega) (by omega) (by omega) (by omega) (by omega) (by omega) (by omega) (by omega) (by omega) (by omega) (by omega) (by omega) (by omega) (by omega) (by omega) (((my_up_fld fh50 (by decide)).trans ev40.symm).trans (by omega)) ((my_up_self fh50).trans (by omega)) (((my_up_fld fh50 (by decide)).trans c82_6_138_0).trans (by omega)) (((my_up_fld fh50 (by decide)).trans ev49.symm).trans (by omega)) (((my_up_fld fh50 (by decide)).trans c82_8_138_0).trans (by omega)) (((my_up_fld fh50 (by decide)).trans c82_9_138_0).trans (by omega)) (by omega) (by first | (intro t k a b; rw [sg]; exact dg_181_0 (by omega) k (by omega) (by omega)) | (intro t k a b; rw [sg]; exact dg_138_0 (by omega) k (by omega) (by omega)) | (intro t k a b; rw [sg, ← sg0, sgi k (by omega)]; omega) | (intro t; omega) | (intro t k a b; rw [sg]; rcases (by omega : k = p181_1 ∨ k < p181_1) with q | q <;> first | exact dg_138_0 (by omega) k (by omega) (by omega) | (subst q; omega))) (by first | assumption | omega | (subst_vars; omega)) (by first | assumption | omega | (subst_vars; omega)) (by omega)
        ·
          refine w_aload_n gz_37_151 rfl ?_
          refine w_getX (v := 92) gz_37_152 is_82 rd_5 rfl (by decide) rfl ?_
          refine w_iload_n gz_37_155 rfl ?_
          refine w_yald gz_37_156 is_92 rd_40 (by omega) (by omega) (fun v56 ev56 pv56 qv56 => ?_)
          refine w_inS (k := 0) (as := [(0, v56)]) (r := []) (ls0 := [(0, v56)]) gz_37_157 gm_38 rfl rfl rfl rfl rfl rfl ?_
          refine w_iload_n gz_38_0 rfl ?_
          refine w_bipush gz_38_1 (by decide) ?_
          refine w_iclt (t := 14) gz_38_3 rfl (fun u57 => ?_) (fun u57 => ?_)
          ·
            refine w_iload_n gz_38_14 rfl ?_
            refine w_bipush gz_38_15 (by decide) ?_
            refine w_iclt (t := 28) gz_38_17 rfl (fun u58 => ?_) (fun u58 => ?_)
            ·
              refine w_iload_n gz_38_28 rfl ?_
              refine w_bipush gz_38_29 (by decide) ?_
              refine w_icne (t := 38) gz_38_31 rfl (fun u59 => ?_) (fun u59 => by exfalso; omega)
              refine w_iconst gz_38_38 (by decide) ?_
              refine w_iret gz_38_39 gm_38 ?_
              show wp l rho (d + 1) 37 160 [(2, 82), (0, p138_0), (0, p138_1)] [(0, 4)] h138_0 Q
              refine w_aload_n gz_37_160 rfl ?_
              refine v_getI (j := 6) gz_37_161 rfl is_82 rd_5 rfl (fun v60 ev60 pv60 qv60 => ?_)
              have zv60 := ev60.trans c82_6_138_0
              refine w_icne (t := 173) gz_37_164 rfl (fun u61 => ?_) (fun u61 => ?_)
              ·
                refine w_aload_n gz_37_173 rfl ?_
                refine w_aload_n gz_37_174 rfl ?_
                refine v_getI (j := 7) gz_37_175 rfl is_82 rd_5 rfl (fun v62 ev62 pv62 qv62 => ?_)
                have zv62 := ev62.trans c82_7_138_0
                refine v_putI (j := 5) gz_37_178 rfl is_82 rd_5 rfl (by omega) (by omega) rfl (fun h63 fh63 => ?_)
                have gh63 : my_fr [(5, 5), (5, 6), (5, 7), (5, 8)] h h63 := my_fr.up gh_138_0 is_82 fh63 rfl
                have ce64 : h63 82 5 = v62 := (my_up_self fh63)
                have ce65 : h63 82 6 = v60 := ((my_up_fld fh63 (by decide)).trans ev60.symm)
                have ce66 : h63 82 7 = v62 := ((my_up_fld fh63 (by decide)).trans ev62.symm)
                have ce67 : h63 82 8 = 0 := ((my_up_fld fh63 (by decide)).trans c82_8_138_0)
                have sg : ∀ j : Int, h63 92 j = h138_0 92 j := fun j => ((my_up_role fh63 is_92 is_82 rfl).trans (rfl : h138_0 92 j = h138_0 92 j))
                exact J181_0 (1001) (p138_0) (p138_1) (v62) (v60) (v62) (0) h63 (gh63) (by omega) (by omega) (by omega) (by omega) (by omega) (by omega) (by omega) (by omega) (by omega) (by omega) (by omega) (by omega) (by omega) (by omega) (by omega) (by omega) (by omega) (by omega) (by omega) (by omega) (((my_up_fld fh63 (by decide)).trans ev40.symm).trans (by omega)) ((my_up_self fh63).trans (by omega)) (((my_up_fld fh63 (by decide)).trans ev60.symm).trans (by omega)) (((my_up_fld fh63 (by decide)).trans ev62.symm).trans (by omega)) (((my_up_fld fh63 (by decide)).trans c82_8_138_0).trans (by omega)) (((my_up_fld fh63 (by decide)).trans c82_9_138_0).trans (by omega)) (by omega) (by first | (intro t k a b; rw [sg]; exact dg_181_0 (by omega) k (by omega) (by omega)) | (intro t k a b; rw [sg]; exact dg_138_0 (by omega) k (by omega) (by omega)) | (intro t k a b; rw [sg, ← sg0, sgi k (by omega)]; omega) | (intro t; omega) | (intro t k a b; rw [sg]; rcases (by omega : k = p181_1 ∨ k < p181_1) with q | q <;> first | exact dg_138_0 (by omega) k (by omega) (by omega) | (subst q; omega))) (by first | assumption | omega | (subst_vars; omega)) (by first | assumption | omega | (subst_vars; omega)) (by omega)
              ·
                refine w_iinc (ls' := [(2, 82), (0, p138_0), (0, (p138_1 + 1))]) gz_37_167 rfl gm_37 rfl rfl rfl ⟨by omega, by omega⟩ ?_
                refine w_goto (t := 138) gz_37_170 rfl ?_
                have ce68 : h138_0 82 5 = p138_2 := c82_5_138_0
                have ce69 : h138_0 82 6 = v60 := ev60.symm
                have ce70 : h138_0 82 7 = p138_2 := c82_7_138_0
                have ce71 : h138_0 82 8 = 0 := c82_8_138_0
                have sg : ∀ j : Int, h138_0 92 j = h138_0 92 j := fun _ => rfl
                exact ih_138_0 (p138_0) ((p138_1 + 1)) (p138_2) (v60) h138_0 (gh_138_0) (by omega) (by omega) (by omega) (by omega) (by omega) (by omega) (by omega) (by omega) (by omega) (by omega) (by omega) (by omega) (by omega) (by omega) (by omega) (by omega) (ev40.symm.trans (by omega)) (c82_5_138_0.trans (by omega)) (ev60.symm.trans (by omega)) (c82_7_138_0.trans (by omega)) (c82_8_138_0.trans (by omega)) (c82_9_138_0.trans (by omega)) (by omega) (by first | (intro t k a b; rw [sg]; exact dg_181_0 (by omega) k (by omega) (by omega)) | (intro t k a b; rw [sg]; exact dg_138_0 (by omega) k (by omega) (by omega)) | (intro t k a b; rw [sg, ← sg0, sgi k (by omega)]; omega) | (intro t; omega) | (intro t k a b; rw [sg]; rcases (by omega : k = p138_1 ∨ k < p138_1) with q | q <;> first | exact dg_138_0 (by omega) k (by omega) (by omega) | (subst q; omega))) (by first | assumption | omega | (subst_vars; omega)) (by first | assumption | omega | (subst_vars; omega)) (by first | assumption | omega | (subst_vars; omega)) (by omega)
            ·
              refine w_iload_n gz_38_20 rfl ?_
              refine w_bipush gz_38_21 (by decide) ?_
              refine w_icgt (t := 28) gz_38_23 rfl (fun u72 => ?_) (fun u72 => ?_)
              ·
                refine w_iload_n gz_38_28 rfl ?_
                refine w_bipush gz_38_29 (by decide) ?_
                refine w_icne (t := 38) gz_38_31 rfl (fun u73 => ?_) (fun u73 => ?_)
                ·
                  refine w_iconst gz_38_38 (by decide) ?_
                  refine w_iret gz_38_39 gm_38 ?_
                  show wp l rho (d + 1) 37 160 [(2, 82), (0, p138_0), (0, p138_1)] [(0, 4)] h138_0 Q
                  refine w_aload_n gz_37_160 rfl ?_
                  refine v_getI (j := 6) gz_37_161 rfl is_82 rd_5 rfl (fun v74 ev74 pv74 qv74 => ?_)
                  have zv74 := ev74.trans c82_6_138_0
                  refine w_icne (t := 173) gz_37_164 rfl (fun u75 => ?_) (fun u75 => ?_)
                  ·
                    refine w_aload_n gz_37_173 rfl ?_
                    refine w_aload_n gz_37_174 rfl ?_
                    refine v_getI (j := 7) gz_37_175 rfl is_82 rd_5 rfl (fun v76 ev76 pv76 qv76 => ?_)
                    have zv76 := ev76.trans c82_7_138_0
                    refine v_putI (j := 5) gz_37_178 rfl is_82 rd_5 rfl (by omega) (by omega) rfl (fun h77 fh77 => ?_)
                    have gh77 : my_fr [(5, 5), (5, 6), (5, 7), (5, 8)] h h77 := my_fr.up gh_138_0 is_82 fh77 rfl
                    have ce78 : h77 82 5 = v76 := (my_up_self fh77)
                    have ce79 : h77 82 6 = v74 := ((my_up_fld fh77 (by decide)).trans ev74.symm)
                    have ce80 : h77 82 7 = v76 := ((my_up_fld fh77 (by decide)).trans ev76.symm)
                    have ce81 : h77 82 8 = 0 := ((my_up_fld fh77 (by decide)).trans c82_8_138_0)
                    have sg : ∀ j : Int, h77 92 j = h138_0 92 j := fun j => ((my_up_role fh77 is_92 is_82 rfl).trans (rfl : h138_0 92 j = h138_0 92 j))
                    exact J181_0 (1001) (p138_0) (p138_1) (v76) (v74) (v76) (0) h77 (gh77) (by omega) (by omega) (by omega) (by omega) (by omega) (by omega) (by omega) (by omega) (by omega) (by omega) (by omega) (by omega) (by omega) (by omega) (by omega) (by omega) (by omega) (by omega) (by omega) (by omega) (((my_up_fld fh77 (by decide)).trans ev40.symm).trans (by omega)) ((my_up_self fh77).trans (by omega)) (((my_up_fld fh77 (by decide)).trans ev74.symm).trans (by omega)) (((my_up_fld fh77 (by decide)).trans ev76.symm).trans (by omega)) (((my_up_fld fh77 (by decide)).trans c82_8_138_0).trans (by omega)) (((my_up_fld fh77 (by decide)).trans c82_9_138_0).trans (by omega)) (by omega) (by first | (intro t k a b; rw [sg]; exact dg_181_0 (by omega) k (by omega) (by omega)) | (intro t k a b; rw [sg]; exact dg_138_0 (by omega) k (by omega) (by omega)) | (intro t k a b; rw [sg, ← sg0, sgi k (by omega)]; omega) | (intro t; omega) | (intro t k a b; rw [sg]; rcases (by omega : k = p181_1 ∨ k < p181_1) with q | q <;> first | exact dg_138_0 (by omega) k (by omega) (by omega) | (subst q; omega))) (by first | assumption | omega | (subst_vars; omega)) (by first | assumption | omega | (subst_vars; omega)) (by omega)
                  ·
                    refine w_iinc (ls' := [(2, 82), (0, p138_0), (0, (p138_1 + 1))]) gz_37_167 rfl gm_37 rfl rfl rfl ⟨by omega, by omega⟩ ?_
                    refine w_goto (t := 138) gz_37_170 rfl ?_
                    have ce82 : h138_0 82 5 = p138_2 := c82_5_138_0
                    have ce83 : h138_0 82 6 = v74 := ev74.symm
                    have ce84 : h138_0 82 7 = p138_2 := c82_7_138_0
                    have ce85 : h138_0 82 8 = 0 := c82_8_138_0
                    have sg : ∀ j : Int, h138_0 92 j = h138_0 92 j := fun _ => rfl
                    exact ih_138_0 (p138_0) ((p138_1 + 1)) (p138_2) (v74) h138_0 (gh_138_0) (by omega) (by omega) (by omega) (by omega) (by omega) (by omega) (by omega) (by omega) (by omega) (by omega) (by omega) (by omega) (by omega) (by omega) (by omega) (by omega) (ev40.symm.trans (by omega)) (c82_5_138_0.trans (by omega)) (ev74.symm.trans (by omega)) (c82_7_138_0.trans (by omega)) (c82_8_138_0.trans (by omega)) (c82_9_138_0.trans (by omega)) (by omega) (by first | (intro t k a b; rw [sg]; exact dg_181_0 (by omega) k (by omega) (by omega)) | (intro t k a b; rw [sg]; exact dg_138_0 (by omega) k (by omega) (by omega)) | (intro t k a b; rw [sg, ← sg0, sgi k (by omega)]; omega) | (intro t; omega) | (intro t k a b; rw [sg]; rcases (by omega : k = p138_1 ∨ k < p138_1) with q | q <;> first | exact dg_138_0 (by omega) k (by omega) (by omega) | (subst q; omega))) (by first | assumption | omega | (subst_vars; omega)) (by first | assumption | omega | (subst_vars; omega)) (by first | assumption | omega | (subst_vars; omega)) (by omega)
                ·
                  refine w_iconst gz_38_34 (by decide) ?_
                  refine w_goto (t := 39) gz_38_35 rfl ?_
                  refine w_iret gz_38_39 gm_38 ?_
                  show wp l rho (d + 1) 37 160 [(2, 82), (0, p138_0), (0, p138_1)] [(0, 3)] h138_0 Q
                  refine w_aload_n gz_37_160 rfl ?_
                  refine v_getI (j := 6) gz_37_161 rfl is_82 rd_5 rfl (fun v86 ev86 pv86 qv86 => ?_)
                  have zv86 := ev86.trans c82_6_138_0
                  refine w_icne (t := 173) gz_37_164 rfl (fun u87 => ?_) (fun u87 => ?_)
                  ·
                    refine w_aload_n gz_37_173 rfl ?_
                    refine w_aload_n gz_37_174 rfl ?_
                    refine v_getI (j := 7) gz_37_175 rfl is_82 rd_5 rfl (fun v88 ev88 pv88 qv88 => ?_)
                    have zv88 := ev88.trans c82_7_138_0
                    refine v_putI (j := 5) gz_37_178 rfl is_82 rd_5 rfl (by omega) (by omega) rfl (fun h89 fh89 => ?_)
                    have gh89 : my_fr [(5, 5), (5, 6), (5, 7), (5, 8)] h h89 := my_fr.up gh_138_0 is_82 fh89 rfl
                    have ce90 : h89 82 5 = v88 := (my_up_self fh89)
                    have ce91 : h89 82 6 = v86 := ((my_up_fld fh89 (by decide)).trans ev86.symm)
                    have ce92 : h89 82 7 = v88 := ((my_up_fld fh89 (by decide)).trans ev88.symm)
                    have ce93 : h89 82 8 = 0 := ((my_up_fld fh89 (by decide)).trans c82_8_138_0)
                    have sg : ∀ j : Int, h89 92 j = h138_0 92 j := fun j => ((my_up_role fh89 is_92 is_82 rfl).trans (rfl : h138_0 92 j = h138_0 92 j))
                    exact J181_0 (1001) (p138_0) (p138_1) (v88) (v86) (v88) (0) h89 (gh89) (by omega) (by omega) (by omega) (by omega) (by omega) (by omega) (by omega) (by omega) (by omega) (by omega) (by omega) (by omega) (by omega) (by omega) (by omega) (by omega) (by omega) (by omega) (by omega) (by omega) (((my_up_fld fh89 (by decide)).trans ev40.symm).trans (by omega)) ((my_up_self fh89).trans (by omega)) (((my_up_fld fh89 (by decide)).trans ev86.symm).trans (by omega)) (((my_up_fld fh89 (by decide)).trans ev88.symm).trans (by omega)) (((my_up_fld fh89 (by decide)).trans c82_8_138_0).trans (by omega)) (((my_up_fld fh89 (by decide)).trans c82_9_138_0).trans (by omega)) (by omega) (by first | (intro t k a b; rw [sg]; exact dg_181_0 (by omega) k (by omega) (by omega)) | (intro t k a b; rw [sg]; exact dg_138_0 (by omega) k (by omega) (by omega)) | (intro t k a b; rw [sg, ← sg0, sgi k (by omega)]; omega) | (intro t; omega) | (intro t k a b; rw [sg]; rcases (by omega : k = p181_1 ∨ k < p181_1) with q | q <;> first | exact dg_138_0 (by omega) k (by omega) (by omega) | (subst q; omega))) (by first | assumption | omega | (subst_vars; omega)) (by first | assumption | omega | (subst_vars; omega)) (by omega)
                  ·
                    refine w_iinc (ls' := [(2, 82), (0, p138_0), (0, (p138_1 + 1))]) gz_37_167 rfl gm_37 rfl rfl rfl ⟨by omega, by omega⟩ ?_
                    refine w_goto (t := 138) gz_37_170 rfl ?_
                    have ce94 : h138_0 82 5 = p138_2 := c82_5_138_0
                    have ce95 : h138_0 82 6 = v86 := ev86.symm
                    have ce96 : h138_0 82 7 = p138_2 := c82_7_138_0
                    have ce97 : h138_0 82 8 = 0 := c82_8_138_0
                    have sg : ∀ j : Int, h138_0 92 j = h138_0 92 j := fun _ => rfl
                    exact ih_138_0 (p138_0) ((p138_1 + 1)) (p138_2) (v86) h138_0 (gh_138_0) (by omega) (by omega) (by omega) (by omega) (by omega) (by omega) (by omega) (by omega) (by omega) (by omega) (by omega) (by omega) (by omega) (by omega) (by omega) (by omega) (ev40.symm.trans (by omega)) (c82_5_138_0.trans (by omega)) (ev86.symm.trans (by omega)) (c82_7_138_0.trans (by omega)) (c82_8_138_0.trans (by omega)) (c82_9_138_0.trans (by omega)) (by omega) (by first | (intro t k a b; rw [sg]; exact dg_181_0 (by omega) k (by omega) (by omega)) | (intro t k a b; rw [sg]; exact dg_138_0 (by omega) k (by omega) (by omega)) | (intro t k a b; rw [sg, ← sg0, sgi k (by omega)]; omega) | (intro t; omega) | (intro t k a b; rw [sg]; rcases (by omega : k = p138_1 ∨ k < p138_1) with q | q <;> first | exact dg_138_0 (by omega) k (by omega) (by omega) | (subst q; omega))) (by first | assumption | omega | (subst_vars; omega)) (by first | assumption | omega | (subst_vars; omega)) (by first | assumption | omega | (subst_vars; omega)) (by omega)
              ·
                refine w_iconst gz_38_26 (by decide) ?_
                refine w_iret gz_38_27 gm_38 ?_
                show wp l rho (d + 1) 37 160 [(2, 82), (0, p138_0), (0, p138_1)] [(0, 2)] h138_0 Q
                refine w_aload_n gz_37_160 rfl ?_
                refine v_getI (j := 6) gz_37_161 rfl is_82 rd_5 rfl (fun v98 ev98 pv98 qv98 => ?_)
                have zv98 := ev98.trans c82_6_138_0
                refine w_icne (t := 173) gz_37_164 rfl (fun u99 => ?_) (fun u99 => ?_)
                ·
                  refine w_aload_n gz_37_173 rfl ?_
                  refine w_aload_n gz_37_174 rfl ?_
                  refine v_getI (j := 7) gz_37_175 rfl is_82 rd_5 rfl (fun v100 ev100 pv100 qv100 => ?_)
                  have zv100 := ev100.trans c82_7_138_0
                  refine v_putI (j := 5) gz_37_178 rfl is_82 rd_5 rfl (by omega) (by omega) rfl (fun h101 fh101 => ?_)
                  have gh101 : my_fr [(5, 5), (5, 6), (5, 7), (5, 8)] h h101 := my_fr.up gh_138_0 is_82 fh101 rfl
                  have ce102 : h101 82 5 = v100 := (my_up_self fh101)
                  have ce103 : h101 82 6 = v98 := ((my_up_fld fh101 (by decide)).trans ev98.symm)
                  have ce104 : h101 82 7 = v100 := ((my_up_fld fh101 (by decide)).trans ev100.symm)
                  have ce105 : h101 82 8 = 0 := ((my_up_fld fh101 (by decide)).trans c82_8_138_0)
                  have sg : ∀ j : Int, h101 92 j = h138_0 92 j := fun j => ((my_up_role fh101 is_92 is_82 rfl).trans (rfl : h138_0 92 j = h138_0 92 j))
                  exact J181_0 (1001) (p138_0) (p138_1) (v100) (v98) (v100) (0) h101 (gh101) (by omega) (by omega) (by omega) (by omega) (by omega) (by omega) (by omega) (by omega) (by omega) (by omega) (by omega) (by omega) (by omega) (by omega) (by omega) (by omega) (by omega) (by omega) (by omega) (by omega) (((my_up_fld fh101 (by decide)).trans ev40.symm).trans (by omega)) ((my_up_self fh101).trans (by omega)) (((my_up_fld fh101 (by decide)).trans ev98.symm).trans (by omega)) (((my_up_fld fh101 (by decide)).trans ev100.symm).trans (by omega)) (((my_up_fld fh101 (by decide)).trans c82_8_138_0).trans (by omega)) (((my_up_fld fh101 (by decide)).trans c82_9_138_0).trans (by omega)) (by omega) (by first | (intro t k a b; rw [sg]; exact dg_181_0 (by omega) k (by omega) (by omega)) | (intro t k a b; rw [sg]; exact dg_138_0 (by omega) k (by omega) (by omega)) | (intro t k a b; rw [sg, ← sg0, sgi k (by omega)]; omega) | (intro t; omega) | (intro t k a b; rw [sg]; rcases (by omega : k = p181_1 ∨ k < p181_1) with q | q <;> first | exact dg_138_0 (by omega) k (by omega) (by omega) | (subst q; omega))) (by first | assumption | omega | (subst_vars; omega)) (by first | assumption | omega | (subst_vars; omega)) (by omega)
                ·
                  refine w_iinc (ls' := [(2, 82), (0, p138_0), (0, (p138_1 + 1))]) gz_37_167 rfl gm_37 rfl rfl rfl ⟨by omega, by omega⟩ ?_
                  refine w_goto (t := 138) gz_37_170 rfl ?_
                  have ce106 : h138_0 82 5 = p138_2 := c82_5_138_0
                  have ce107 : h138_0 82 6 = v98 := ev98.symm
                  have ce108 : h138_0 82 7 = p138_2 := c82_7_138_0
                  have ce109 : h138_0 82 8 = 0 := c82_8_138_0
                  have sg : ∀ j : Int, h138_0 92 j = h138_0 92 j := fun _ => rfl
                  exact ih_138_0 (p138_0) ((p138_1 + 1)) (p138_2) (v98) h138_0 (gh_138_0) (by omega) (by omega) (by omega) (by omega) (by omega) (by omega) (by omega) (by omega) (by omega) (by omega) (by omega) (by omega) (by omega) (by omega) (by omega) (by omega) (ev40.symm.trans (by omega)) (c82_5_138_0.trans (by omega)) (ev98.symm.trans (by omega)) (c82_7_138_0.trans (by omega)) (c82_8_138_0.trans (by omega)) (c82_9_138_0.trans (by omega)) (by omega) (by first | (intro t k a b; rw [sg]; exact dg_181_0 (by omega) k (by omega) (by omega)) | (intro t k a b; rw [sg]; exact dg_138_0 (by omega) k (by omega) (by omega)) | (intro t k a b; rw [sg, ← sg0, sgi k (by omega)]; omega) | (intro t; omega) | (intro t k a b; rw [sg]; rcases (by omega : k = p138_1 ∨ k < p138_1) with q | q <;> first | exact dg_138_0 (by omega) k (by omega) (by omega) | (subst q; omega))) (by first | assumption | omega | (subst_vars; omega)) (by first | assumption | omega | (subst_vars; omega)) (by first | assumption | omega | (subst_vars; omega)) (by omega)
          ·
            refine w_iload_n gz_38_6 rfl ?_
            refine w_bipush gz_38_7 (by decide) ?_
            refine w_icgt (t := 14) gz_38_9 rfl (fun u110 => ?_) (fun u110 => ?_)
            ·
              refine w_iload_n gz_38_14 rfl ?_
              refine w_bipush gz_38_15 (by decide) ?_
              refine w_iclt (t := 28) gz_38_17 rfl (fun u111 => by exfalso; omega) (fun u111 => ?_)
              refine w_iload_n gz_38_20 rfl ?_
              refine w_bipush gz_38_21 (by decide) ?_
              refine w_icgt (t := 28) gz_38_23 rfl (fun u112 => ?_) (fun u112 => by exfalso; omega)
              refine w_iload_n gz_38_28 rfl ?_
              refine w_bipush gz_38_29 (by decide) ?_
              refine w_icne (t := 38) gz_38_31 rfl (fun u113 => ?_) (fun u113 => by exfalso; omega)
              refine w_iconst gz_38_38 (by decide) ?_
              refine w_iret gz_38_39 gm_38 ?_
              show wp l rho (d + 1) 37 160 [(2, 82), (0, p138_0), (0, p138_1)] [(0, 4)] h138_0 Q
              refine w_aload_n gz_37_160 rfl ?_
              refine v_getI (j := 6) gz_37_161 rfl is_82 rd_5 rfl (fun v114 ev114 pv114 qv114 => ?_)
              have zv114 := ev114.trans c82_6_138_0
              refine w_icne (t := 173) gz_37_164 rfl (fun u115 => ?_) (fun u115 => ?_)
              ·
                refine w_aload_n gz_37_173 rfl ?_
                refine w_aload_n gz_37_174 rfl ?_
                refine v_getI (j := 7) gz_37_175 rfl is_82 rd_5 rfl (fun v116 ev116 pv116 qv116 => ?_)
                have zv116 := ev116.trans c82_7_138_0
                refine v_putI (j := 5) gz_37_178 rfl is_82 rd_5 rfl (by omega) (by omega) rfl (fun h117 fh117 => ?_)
                have gh117 : my_fr [(5, 5), (5, 6), (5, 7), (5, 8)] h h117 := my_fr.up gh_138_0 is_82 fh117 rfl
                have ce118 : h117 82 5 = v116 := (my_up_self fh117)
                have ce119 : h117 82 6 = v114 := ((my_up_fld fh117 (by decide)).trans ev114.symm)
                have ce120 : h117 82 7 = v116 := ((my_up_fld fh117 (by decide)).trans ev116.symm)
                have ce121 : h117 82 8 = 0 := ((my_up_fld fh117 (by decide)).trans c82_8_138_0)
                have sg : ∀ j : Int, h117 92 j = h138_0 92 j := fun j => ((my_up_role fh117 is_92 is_82 rfl).trans (rfl : h138_0 92 j = h138_0 92 j))
                exact J181_0 (1001) (p138_0) (p138_1) (v116) (v114) (v116) (0) h117 (gh117) (by omega) (by omega) (by omega) (by omega) (by omega) (by omega) (by omega) (by omega) (by omega) (by omega) (by omega) (by omega) (by omega) (by omega) (by omega) (by omega) (by omega) (by omega) (by omega) (by omega) (((my_up_fld fh117 (by decide)).trans ev40.symm).trans (by omega)) ((my_up_self fh117).trans (by omega)) (((my_up_fld fh117 (by decide)).trans ev114.symm).trans (by omega)) (((my_up_fld fh117 (by decide)).trans ev116.symm).trans (by omega)) (((my_up_fld fh117 (by decide)).trans c82_8_138_0).trans (by omega)) (((my_up_fld fh117 (by decide)).trans c82_9_138_0).trans (by omega)) (by omega) (by first | (intro t k a b; rw [sg]; exact dg_181_0 (by omega) k (by omega) (by omega)) | (intro t k a b; rw [sg]; exact dg_138_0 (by omega) k (by omega) (by omega)) | (intro t k a b; rw [sg, ← sg0, sgi k (by omega)]; omega) | (intro t; omega) | (intro t k a b; rw [sg]; rcases (by omega : k = p181_1 ∨ k < p181_1) with q | q <;> first | exact dg_138_0 (by omega) k (by omega) (by omega) | (subst q; omega))) (by first | assumption | omega | (subst_vars; omega)) (by first | assumption | omega | (subst_vars; omega)) (by omega)
              ·
                refine w_iinc (ls' := [(2, 82), (0, p138_0), (0, (p138_1 + 1))]) gz_37_167 rfl gm_37 rfl rfl rfl ⟨by omega, by omega⟩ ?_
                refine w_goto (t := 138) gz_37_170 rfl ?_
                have ce122 : h138_0 82 5 = p138_2 := c82_5_138_0
                have ce123 : h138_0 82 6 = v114 := ev114.symm
                have ce124 : h138_0 82 7 = p138_2 := c82_7_138_0
                have ce125 : h138_0 82 8 = 0 := c82_8_138_0
                have sg : ∀ j : Int, h138_0 92 j = h138_0 92 j := fun _ => rfl
                exact ih_138_0 (p138_0) ((p138_1 + 1)) (p138_2) (v114) h138_0 (gh_138_0) (by omega) (by omega) (by omega) (by omega) (by omega) (by omega) (by omega) (by omega) (by omega) (by omega) (by omega) (by omega) (by omega) (by omega) (by omega) (by omega) (ev40.symm.trans (by omega)) (c82_5_138_0.trans (by omega)) (ev114.symm.trans (by omega)) (c82_7_138_0.trans (by omega)) (c82_8_138_0.trans (by omega)) (c82_9_138_0.trans (by omega)) (by omega) (by first | (intro t k a b; rw [sg]; exact dg_181_0 (by omega) k (by omega) (by omega)) | (intro t k a b; rw [sg]; exact dg_138_0 (by omega) k (by omega) (by omega)) | (intro t k a b; rw [sg, ← sg0, sgi k (by omega)]; omega) | (intro t; omega) | (intro t k a b; rw [sg]; rcases (by omega : k = p138_1 ∨ k < p138_1) with q | q <;> first | exact dg_138_0 (by omega) k (by omega) (by omega) | (subst q; omega))) (by first | assumption | omega | (subst_vars; omega)) (by first | assumption | omega | (subst_vars; omega)) (by first | assumption | omega | (subst_vars; omega)) (by omega)
            ·
              refine w_iconst gz_38_12 (by decide) ?_
              refine w_iret gz_38_13 gm_38 ?_
              show wp l rho (d + 1) 37 160 [(2, 82), (0, p138_0), (0, p138_1)] [(0, 1)] h138_0 Q
              refine w_aload_n gz_37_160 rfl ?_
              refine v_getI (j := 6) gz_37_161 rfl is_82 rd_5 rfl (fun v126 ev126 pv126 qv126 => ?_)
              have zv126 := ev126.trans c82_6_138_0
              refine w_icne (t := 173) gz_37_164 rfl (fun u127 => ?_) (fun u127 => ?_)
              ·
                refine w_aload_n gz_37_173 rfl ?_
                refine w_aload_n gz_37_174 rfl ?_
                refine v_getI (j := 7) gz_37_175 rfl is_82 rd_5 rfl (fun v128 ev128 pv128 qv128 => ?_)
                have zv128 := ev128.trans c82_7_138_0
                refine v_putI (j := 5) gz_37_178 rfl is_82 rd_5 rfl (by omega) (by omega) rfl (fun h129 fh129 => ?_)
                have gh129 : my_fr [(5, 5), (5, 6), (5, 7), (5, 8)] h h129 := my_fr.up gh_138_0 is_82 fh129 rfl
                have ce130 : h129 82 5 = v128 := (my_up_self fh129)
                have ce131 : h129 82 6 = v126 := ((my_up_fld fh129 (by decide)).trans ev126.symm)
                have ce132 : h129 82 7 = v128 := ((my_up_fld fh129 (by decide)).trans ev128.symm)
                have ce133 : h129 82 8 = 0 := ((my_up_fld fh129 (by decide)).trans c82_8_138_0)
                have sg : ∀ j : Int, h129 92 j = h138_0 92 j := fun j => ((my_up_role fh129 is_92 is_82 rfl).trans (rfl : h138_0 92 j = h138_0 92 j))
                exact J181_0 (1001) (p138_0) (p138_1) (v128) (v126) (v128) (0) h129 (gh129) (by omega) (by omega) (by omega) (by omega) (by omega) (by omega) (by omega) (by omega) (by omega) (by omega) (by omega) (by omega) (by omega) (by omega) (by omega) (by omega) (by omega) (by omega) (by omega) (by omega) (((my_up_fld fh129 (by decide)).trans ev40.symm).trans (by omega)) ((my_up_self fh129).trans (by omega)) (((my_up_fld fh129 (by decide)).trans ev126.symm).trans (by omega)) (((my_up_fld fh129 (by decide)).trans ev128.symm).trans (by omega)) (((my_up_fld fh129 (by decide)).trans c82_8_138_0).trans (by omega)) (((my_up_fld fh129 (by decide)).trans c82_9_138_0).trans (by omega)) (by omega) (by first | (intro t k a b; rw [sg]; exact dg_181_0 (by omega) k (by omega) (by omega)) | (intro t k a b; rw [sg]; exact dg_138_0 (by omega) k (by omega) (by omega)) | (intro t k a b; rw [sg, ← sg0, sgi k (by omega)]; omega) | (intro t; omega) | (intro t k a b; rw [sg]; rcases (by omega : k = p181_1 ∨ k < p181_1) with q | q <;> first | exact dg_138_0 (by omega) k (by omega) (by omega) | (subst q; omega))) (by first | assumption | omega | (subst_vars; omega)) (by first | assumption | omega | (subst_vars; omega)) (by omega)
              ·
                refine w_iinc (ls' := [(2, 82), (0, p138_0), (0, (p138_1 + 1))]) gz_37_167 rfl gm_37 rfl rfl rfl ⟨by omega, by omega⟩ ?_
                refine w_goto (t := 138) gz_37_170 rfl ?_
                have ce134 : h138_0 82 5 = p138_2 := c82_5_138_0
                have ce135 : h138_0 82 6 = v126 := ev126.symm
                have ce136 : h138_0 82 7 = p138_2 := c82_7_138_0
                have ce137 : h138_0 82 8 = 0 := c82_8_138_0
                have sg : ∀ j : Int, h138_0 92 j = h138_0 92 j := fun _ => rfl
                exact ih_138_0 (p138_0) ((p138_1 + 1)) (p138_2) (v126) h138_0 (gh_138_0) (by omega) (by omega) (by omega) (by omega) (by omega) (by omega) (by omega) (by omega) (by omega) (by omega) (by omega) (by omega) (by omega) (by omega) (by omega) (by omega) (ev40.symm.trans (by omega)) (c82_5_138_0.trans (by omega)) (ev126.symm.trans (by omega)) (c82_7_138_0.trans (by omega)) (c82_8_138_0.trans (by omega)) (c82_9_138_0.trans (by omega)) (by omega) (by first | (intro t k a b; rw [sg]; exact dg_181_0 (by omega) k (by omega) (by omega)) | (intro t k a b; rw [sg]; exact dg_138_0 (by omega) k (by omega) (by omega)) | (intro t k a b; rw [sg, ← sg0, sgi k (by omega)]; omega) | (intro t; omega) | (intro t k a b; rw [sg]; rcases (by omega : k = p138_1 ∨ k < p138_1) with q | q <;> first | exact dg_138_0 (by omega) k (by omega) (by omega) | (subst q; omega))) (by first | assumption | omega | (subst_vars; omega)) (by first | assumption | omega | (subst_vars; omega)) (by first | assumption | omega | (subst_vars; omega)) (by omega)
  have J0_0 : ∀ (n : Nat) (p0_0 : Int) (h0_0 : my_H), my_fr [(5, 5), (5, 6), (5, 7), (5, 8)] h h0_0 → 1 ≤ k82_4 → 1 ≤ p0_0 → p0_0 ≤ 1000 → k82_5 ≤ 999 → p0_0 ≤ k82_4 → k82_5 ≤ (p0_0 - 1) → k82_5 ≤ (k82_4 - 1) → h0_0 82 4 = k82_4 → h0_0 82 5 = p0_0 → h0_0 82 9 = 0 → 1001 - h0_0 82 5 ≤ (n : Int) → wp l rho (d + 1) 37 0 [(2, 82), (9, 0), (9, 0)] [] h0_0 Q := by
    intro n
    induction n with
    | zero => intro p0_0 h0_0 gh_0_0 q0_0_0 q1_0_0 q2_0_0 q3_0_0 q4_0_0 q5_0_0 q6_0_0 c82_4_0_0 c82_5_0_0 c82_9_0_0 hm_0_0; exfalso; omega
    | succ n ih_0_0 =>
      intro p0_0 h0_0 gh_0_0 q0_0_0 q1_0_0 q2_0_0 q3_0_0 q4_0_0 q5_0_0 q6_0_0 c82_4_0_0 c82_5_0_0 c82_9_0_0 hm_0_0
      refine w_aload_n gz_37_0 rfl ?_
      refine v_getI (j := 5) gz_37_1 rfl is_82 rd_5 rfl (fun v138 ev138 pv138 qv138 => ?_)
      have zv138 := ev138.trans c82_5_0_0
      refine w_aload_n gz_37_4 rfl ?_
      refine v_getI (j := 4) gz_37_5 rfl is_82 rd_5 rfl (fun v139 ev139 pv139 qv139 => ?_)
      have zv139 := ev139.trans c82_4_0_0
      refine w_icge (t := 52) gz_37_8 rfl (fun u140 => ?_) (fun u140 => ?_)
      ·
        refine w_aload_n gz_37_52 rfl ?_
        refine w_aload_n gz_37_53 rfl ?_
        refine v_getI (j := 5) gz_37_54 rfl is_82 rd_5 rfl (fun v141 ev141 pv141 qv141 => ?_)
        have zv141 := ev141.trans ev138.symm
        refine v_putI (j := 7) gz_37_57 rfl is_82 rd_5 rfl (by omega) (by omega) rfl (fun h142 fh142 => ?_)
        have gh142 : my_fr [(5, 5), (5, 6), (5, 7), (5, 8)] h h142 := my_fr.up gh_0_0 is_82 fh142 rfl
        refine w_aload_n gz_37_60 rfl ?_
        refine w_aload_n gz_37_61 rfl ?_
        refine v_getI (j := 5) gz_37_62 rfl is_82 rd_5 rfl (fun v143 ev143 pv143 qv143 => ?_)
        have zv143 := ev143.trans ((my_up_fld fh142 (by decide)).trans ev141.symm)
        refine w_aload_n gz_37_65 rfl ?_
        refine v_getI (j := 4) gz_37_66 rfl is_82 rd_5 rfl (fun v144 ev144 pv144 qv144 => ?_)
        have zv144 := ev144.trans ((my_up_fld fh142 (by decide)).trans ev139.symm)
        refine w_icge (t := 87) gz_37_69 rfl (fun u145 => ?_) (fun u145 => by exfalso; omega)
        refine w_iconst gz_37_87 (by decide) ?_
        refine v_putI (j := 6) gz_37_88 rfl is_82 rd_5 rfl (by omega) (by omega) rfl (fun h146 fh146 => ?_)
        have gh146 : my_fr [(5, 5), (5, 6), (5, 7), (5, 8)] h h146 := my_fr.up gh142 is_82 fh146 rfl
        refine w_aload_n gz_37_91 rfl ?_
        refine v_getI (j := 6) gz_37_92 rfl is_82 rd_5 rfl (fun v147 ev147 pv147 qv147 => ?_)
        have zv147 := ev147.trans (my_up_self fh146)
        refine w_ifne (t := 99) gz_37_95 rfl (fun u148 => by exfalso; omega) (fun u148 => ?_)
        have c149 := ev147.symm
        have c150 := ((my_up_fld fh146 (by decide)).trans ((my_up_fld fh142 (by decide)).trans c82_9_0_0))
        exact w_vret gz_37_98 gm_37 (k0 h146 (gh146) (by omega) (by omega) (by omega))
      ·
        refine w_aload_n gz_37_11 rfl ?_
        refine w_getX (v := 92) gz_37_12 is_82 rd_5 rfl (by decide) rfl ?_
        refine w_aload_n gz_37_15 rfl ?_
        refine v_getI (j := 5) gz_37_16 rfl is_82 rd_5 rfl (fun v152 ev152 pv152 qv152 => ?_)
        have zv152 := ev152.trans ev138.symm
        refine w_yald gz_37_19 is_92 rd_40 (by omega) (by omega) (fun v153 ev153 pv153 qv153 => ?_)
        refine w_bipush gz_37_20 (by decide) ?_
        refine w_iceq (t := 39) gz_37_22 rfl (fun u154 => ?_) (fun u154 => ?_)
        ·
          refine w_aload_n gz_37_39 rfl ?_
          refine w_dup gz_37_40 rfl ?_
          refine v_getI (j := 5) gz_37_41 rfl is_82 rd_5 rfl (fun v155 ev155 pv155 qv155 => ?_)
          have zv155 := ev155.trans ev152.symm
          refine w_iconst gz_37_44 (by decide) ?_
          refine w_iadd gz_37_45 ⟨by omega, by omega⟩ ?_
          refine v_putI (j := 5) gz_37_46 rfl is_82 rd_5 rfl (by omega) (by omega) rfl (fun h156 fh156 => ?_)
          have gh156 : my_fr [(5, 5), (5, 6), (5, 7), (5, 8)] h h156 := my_fr.up gh_0_0 is_82 fh156 rfl
          refine w_goto (t := 0) gz_37_49 rfl ?_
          have ce157 : h156 82 5 = (v155 + 1) := (my_up_self fh156)
          exact ih_0_0 ((v155 + 1)) h156 (gh156) (by omega) (by omega) (by omega) (by omega) (by omega) (by omega) (by omega) (((my_up_fld fh156 (by decide)).trans ev139.symm).trans (by omega)) ((my_up_self fh156).trans (by omega)) (((my_up_fld fh156 (by decide)).trans c82_9_0_0).trans (by omega)) (by omega)
        ·
          refine w_aload_n gz_37_25 rfl ?_
          refine w_getX (v := 92) gz_37_26 is_82 rd_5 rfl (by decide) rfl ?_
          refine w_aload_n gz_37_29 rfl ?_
          refine v_getI (j := 5) gz_37_30 rfl is_82 rd_5 rfl (fun v159 ev159 pv159 qv159 => ?_)
          have zv159 := ev159.trans ev152.symm
          refine w_yald gz_37_33 is_92 rd_40 (by omega) (by omega) (fun v160 ev160 pv160 qv160 => ?_)
          have wv160 : v159 = v152 := by omega
          rw [wv160] at ev160
          have zv160 := ev160.trans ev153.symm
          refine w_bipush gz_37_34 (by decide) ?_
          refine w_icne (t := 52) gz_37_36 rfl (fun u161 => ?_) (fun u161 => ?_)
          ·
            refine w_aload_n gz_37_52 rfl ?_
            refine w_aload_n gz_37_53 rfl ?_
            refine v_getI (j := 5) gz_37_54 rfl is_82 rd_5 rfl (fun v162 ev162 pv162 qv162 => ?_)
            have zv162 := ev162.trans ev159.symm
            refine v_putI (j := 7) gz_37_57 rfl is_82 rd_5 rfl (by omega) (by omega) rfl (fun h163 fh163 => ?_)
            have gh163 : my_fr [(5, 5), (5, 6), (5, 7), (5, 8)] h h163 := my_fr.up gh_0_0 is_82 fh163 rfl
            refine w_aload_n gz_37_60 rfl ?_
            refine w_aload_n gz_37_61 rfl ?_
            refine v_getI (j := 5) gz_37_62 rfl is_82 rd_5 rfl (fun v164 ev164 pv164 qv164 => ?_)
            have zv164 := ev164.trans ((my_up_fld fh163 (by decide)).trans ev162.symm)
            refine w_aload_n gz_37_65 rfl ?_
            refine v_getI (j := 4) gz_37_66 rfl is_82 rd_5 rfl (fun v165 ev165 pv165 qv165 => ?_)
            have zv165 := ev165.trans ((my_up_fld fh163 (by decide)).trans ev139.symm)
            refine w_icge (t := 87) gz_37_69 rfl (fun u166 => by exfalso; omega) (fun u166 => ?_)
            refine w_aload_n gz_37_72 rfl ?_
            refine w_getX (v := 92) gz_37_73 is_82 rd_5 rfl (by decide) rfl ?_
            refine w_aload_n gz_37_76 rfl ?_
            refine v_getI (j := 5) gz_37_77 rfl is_82 rd_5 rfl (fun v168 ev168 pv168 qv168 => ?_)
            have zv168 := ev168.trans ev164.symm
            have sg0 : ∀ j : Int, h163 92 j = h0_0 92 j := fun j => ((my_up_role fh163 is_92 is_82 rfl).trans (rfl : h0_0 92 j = h0_0 92 j))
            refine w_yald gz_37_80 is_92 rd_40 (by omega) (by omega) (fun v169 ev169 pv169 qv169 => ?_)
            have wv169 : v168 = v152 := by omega
            rw [wv169] at ev169
            have zv169 := ev169.trans ((my_up_role fh163 is_92 is_82 rfl).trans ev160.symm)
            have sgi : ∀ k : Int, k = v152 → h163 92 k = v169 := fun k q => by rw [q]; omega
            refine w_inS (k := 0) (as := [(0, v169)]) (r := [(2, 82)]) (ls0 := [(0, v169)]) gz_37_81 gm_38 rfl rfl rfl rfl rfl rfl ?_
            refine w_iload_n gz_38_0 rfl ?_
            refine w_bipush gz_38_1 (by decide) ?_
            refine w_iclt (t := 14) gz_38_3 rfl (fun u170 => ?_) (fun u170 => ?_)
            ·
              refine w_iload_n gz_38_14 rfl ?_
              refine w_bipush gz_38_15 (by decide) ?_
              refine w_iclt (t := 28) gz_38_17 rfl (fun u171 => ?_) (fun u171 => ?_)
              ·
                refine w_iload_n gz_38_28 rfl ?_
                refine w_bipush gz_38_29 (by decide) ?_
                refine w_icne (t := 38) gz_38_31 rfl (fun u172 => ?_) (fun u172 => by exfalso; omega)
                refine w_iconst gz_38_38 (by decide) ?_
                refine w_iret gz_38_39 gm_38 ?_
                show wp l rho (d + 1) 37 84 [(2, 82), (9, 0), (9, 0)] [(0, 4), (2, 82)] h163 Q
                refine w_goto (t := 88) gz_37_84 rfl ?_
                refine v_putI (j := 6) gz_37_88 rfl is_82 rd_5 rfl (by omega) (by omega) rfl (fun h173 fh173 => ?_)
                have gh173 : my_fr [(5, 5), (5, 6), (5, 7), (5, 8)] h h173 := my_fr.up gh163 is_82 fh173 rfl
                refine w_aload_n gz_37_91 rfl ?_
                refine v_getI (j := 6) gz_37_92 rfl is_82 rd_5 rfl (fun v174 ev174 pv174 qv174 => ?_)
                have zv174 := ev174.trans (my_up_self fh173)
                refine w_ifne (t := 99) gz_37_95 rfl (fun u175 => ?_) (fun u175 => by exfalso; omega)
                refine w_aload_n gz_37_99 rfl ?_
                refine w_iconst gz_37_100 (by decide) ?_
                refine v_putI (j := 8) gz_37_101 rfl is_82 rd_5 rfl (by omega) (by omega) rfl (fun h176 fh176 => ?_)
                have gh176 : my_fr [(5, 5), (5, 6), (5, 7), (5, 8)] h h176 := my_fr.up gh173 is_82 fh176 rfl
                refine w_aload_n gz_37_104 rfl ?_
                refine v_getI (j := 6) gz_37_105 rfl is_82 rd_5 rfl (fun v177 ev177 pv177 qv177 => ?_)
                have zv177 := ev177.trans ((my_up_fld fh176 (by decide)).trans ev174.symm)
                refine w_iconst gz_37_108 (by decide) ?_
                refine w_icne (t := 117) gz_37_109 rfl (fun u178 => ?_) (fun u178 => by exfalso; omega)
                refine w_aload_n gz_37_117 rfl ?_
                refine v_getI (j := 6) gz_37_118 rfl is_82 rd_5 rfl (fun v179 ev179 pv179 qv179 => ?_)
                have zv179 := ev179.trans ev177.symm
                refine w_iconst gz_37_121 (by decide) ?_
                refine w_icne (t := 129) gz_37_122 rfl (fun u180 => ?_) (fun u180 => by exfalso; omega)
                refine w_iconst gz_37_129 (by decide) ?_
                refine w_istore_n (ls' := [(2, 82), (0, 1), (9, 0)]) gz_37_130 gm_37 rfl rfl rfl ?_
                refine w_aload_n gz_37_131 rfl ?_
                refine v_getI (j := 7) gz_37_132 rfl is_82 rd_5 rfl (fun v181 ev181 pv181 qv181 => ?_)
                have zv181 := ev181.trans ((my_up_fld fh176 (by decide)).trans ((my_up_fld fh173 (by decide)).trans (my_up_self fh163)))
                refine w_iconst gz_37_135 (by decide) ?_
                refine w_iadd gz_37_136 ⟨by omega, by omega⟩ ?_
                refine w_istore_n (ls' := [(2, 82), (0, 1), (0, (v181 + 1))]) gz_37_137 gm_37 rfl rfl rfl ?_
                have ce182 : h176 82 5 = v168 := ((my_up_fld fh176 (by decide)).trans ((my_up_fld fh173 (by decide)).trans ev168.symm))
                have ce183 : h176 82 6 = v179 := ev179.symm
                have ce184 : h176 82 7 = v181 := ev181.symm
                have ce185 : h176 82 8 = 0 := (my_up_self fh176)
                have sg : ∀ j : Int, h176 92 j = h0_0 92 j := fun j => ((my_up_role fh176 is_92 is_82 rfl).trans ((my_up_role fh173 is_92 is_82 rfl).trans ((my_up_role fh163 is_92 is_82 rfl).trans (rfl : h0_0 92 j = h0_0 92 j))))
                exact J138_0 (1001) (1) ((v181 + 1)) (v168) (v179) h176 (gh176) (by omega) (by omega) (by omega) (by omega) (by omega) (by omega) (by omega) (by omega) (by omega) (by omega) (by omega) (by omega) (by omega) (by omega) (by omega) (by omega) (((my_up_fld fh176 (by decide)).trans ((my_up_fld fh173 (by decide)).trans ev165.symm)).trans (by omega)) (((my_up_fld fh176 (by decide)).trans ((my_up_fld fh173 (by decide)).trans ev168.symm)).trans (by omega)) (ev179.symm.trans (by omega)) (ev181.symm.trans (by omega)) ((my_up_self fh176).trans (by omega)) (((my_up_fld fh176 (by decide)).trans ((my_up_fld fh173 (by decide)).trans ((my_up_fld fh163 (by decide)).trans c82_9_0_0))).trans (by omega)) (by omega) (by first | (intro t k a b; rw [sg]; exact dg_181_0 (by omega) k (by omega) (by omega)) | (intro t k a b; rw [sg]; exact dg_138_0 (by omega) k (by omega) (by omega)) | (intro t k a b; rw [sg, ← sg0, sgi k (by omega)]; omega) | (intro t; omega) | (intro t k a b; rw [sg]; rcases (by omega : k = p138_1 ∨ k < p138_1) with q | q <;> first | exact dg_138_0 (by omega) k (by omega) (by omega) | (subst q; omega))) (by first | assumption | omega | (subst_vars; omega)) (by first | assumption | omega | (subst_vars; omega)) (by first | assumption | omega | (subst_vars; omega)) (by omega)
              ·
                refine w_iload_n gz_38_20 rfl ?_
                refine w_bipush gz_38_21 (by decide) ?_
                refine w_icgt (t := 28) gz_38_23 rfl (fun u186 => ?_) (fun u186 => ?_)
                ·
                  refine w_iload_n gz_38_28 rfl ?_
                  refine w_bipush gz_38_29 (by decide) ?_
                  refine w_icne (t := 38) gz_38_31 rfl (fun u187 => ?_) (fun u187 => ?_)
                  ·
                    refine w_iconst gz_38_38 (by decide) ?_
                    refine w_iret gz_38_39 gm_38 ?_
                    show wp l rho (d + 1) 37 84 [(2, 82), (9, 0), (9, 0)] [(0, 4), (2, 82)] h163 Q
                    refine w_goto (t := 88) gz_37_84 rfl ?_
                    refine v_putI (j := 6) gz_37_88 rfl is_82 rd_5 rfl (by omega) (by omega) rfl (fun h188 fh188 => ?_)
                    have gh188 : my_fr [(5, 5), (5, 6), (5, 7), (5, 8)] h h188 := my_fr.up gh163 is_82 fh188 rfl
                    refine w_aload_n gz_37_91 rfl ?_
                    refine v_getI (j := 6) gz_37_92 rfl is_82 rd_5 rfl (fun v189 ev189 pv189 qv189 => ?_)
                    have zv189 := ev189.trans (my_up_self fh188)
                    refine w_ifne (t := 99) gz_37_95 rfl (fun u190 => ?_) (fun u190 => by exfalso; omega)
                    refine w_aload_n gz_37_99 rfl ?_
                    refine w_iconst gz_37_100 (by decide) ?_
                    refine v_putI (j := 8) gz_37_101 rfl is_82 rd_5 rfl (by omega) (by omega) rfl (fun h191 fh191 => ?_)
                    have gh191 : my_fr [(5, 5), (5, 6), (5, 7), (5, 8)] h h191 := my_fr.up gh188 is_82 fh191 rfl
                    refine w_aload_n gz_37_104 rfl ?_
                    refine v_getI (j := 6) gz_37_105 rfl is_82 rd_5 rfl (fun v192 ev192 pv192 qv192 => ?_)
                    have zv192 := ev192.trans ((my_up_fld fh191 (by decide)).trans ev189.symm)
                    refine w_iconst gz_37_108 (by decide) ?_
                    refine w_icne (t := 117) gz_37_109 rfl (fun u193 => ?_) (fun u193 => by exfalso; omega)
                    refine w_aload_n gz_37_117 rfl ?_
                    refine v_getI (j := 6) gz_37_118 rfl is_82 rd_5 rfl (fun v194 ev194 pv194 qv194 => ?_)
                    have zv194 := ev194.trans ev192.symm
                    refine w_iconst gz_37_121 (by decide) ?_
                    refine w_icne (t := 129) gz_37_122 rfl (fun u195 => ?_) (fun u195 => by exfalso; omega)
                    refine w_iconst gz_37_129 (by decide) ?_
                    refine w_istore_n (ls' := [(2, 82), (0, 1), (9, 0)]) gz_37_130 gm_37 rfl rfl rfl ?_
                    refine w_aload_n gz_37_131 rfl ?_
                    refine v_getI (j := 7) gz_37_132 rfl is_82 rd_5 rfl (fun v196 ev196 pv196 qv196 => ?_)
                    have zv196 := ev196.trans ((my_up_fld fh191 (by decide)).trans ((my_up_fld fh188 (by decide)).trans (my_up_self fh163)))
                    refine w_iconst gz_37_135 (by decide) ?_
                    refine w_iadd gz_37_136 ⟨by omega, by omega⟩ ?_
                    refine w_istore_n (ls' := [(2, 82), (0, 1), (0, (v196 + 1))]) gz_37_137 gm_37 rfl rfl rfl ?_
                    have ce197 : h191 82 5 = v168 := ((my_up_fld fh191 (by decide)).trans ((my_up_fld fh188 (by decide)).trans ev168.symm))
                    have ce198 : h191 82 6 = v194 := ev194.symm
                    have ce199 : h191 82 7 = v196 := ev196.symm
                    have ce200 : h191 82 8 = 0 := (my_up_self fh191)
                    have sg : ∀ j : Int, h191 92 j = h0_0 92 j := fun j => ((my_up_role fh191 is_92 is_82 rfl).trans ((my_up_role fh188 is_92 is_82 rfl).trans ((my_up_role fh163 is_92 is_82 rfl).trans (rfl : h0_0 92 j = h0_0 92 j))))
                    exact J138_0 (1001) (1) ((v196 + 1)) (v168) (v194) h191 (gh191) (by omega) (by omega) (by omega) (by omega) (by omega) (by omega) (by omega) (by omega) (by omega) (by omega) (by omega) (by omega) (by omega) (by omega) (by omega) (by omega) (((my_up_fld fh191 (by decide)).trans ((my_up_fld fh188 (by decide)).trans ev165.symm)).trans (by omega)) (((my_up_fld fh191 (by decide)).trans ((my_up_fld fh188 (by decide)).trans ev168.symm)).trans (by omega)) (ev194.symm.trans (by omega)) (ev196.symm.trans (by omega)) ((my_up_self fh191).trans (by omega)) (((my_up_fld fh191 (by decide)).trans ((my_up_fld fh188 (by decide)).trans ((my_up_fld fh163 (by decide)).trans c82_9_0_0))).trans (by omega)) (by omega) (by first | (intro t k a b; rw [sg]; exact dg_181_0 (by omega) k (by omega) (by omega)) | (intro t k a b; rw [sg]; exact dg_138_0 (by omega) k (by omega) (by omega)) | (intro t k a b; rw [sg, ← sg0, sgi k (by omega)]; omega) | (intro t; omega) | (intro t k a b; rw [sg]; rcases (by omega : k = p138_1 ∨ k < p138_1) with q | q <;> first | exact dg_138_0 (by omega) k (by omega) (by omega) | (subst q; omega))) (by first | assumption | omega | (subst_vars; omega)) (by first | assumption | omega | (subst_vars; omega)) (by first | assumption | omega | (subst_vars; omega)) (by omega)
                  ·
                    refine w_iconst gz_38_34 (by decide) ?_
                    refine w_goto (t := 39) gz_38_35 rfl ?_
                    refine w_iret gz_38_39 gm_38 ?_
                    show wp l rho (d + 1) 37 84 [(2, 82), (9, 0), (9, 0)] [(0, 3), (2, 82)] h163 Q
                    refine w_goto (t := 88) gz_37_84 rfl ?_
                    refine v_putI (j := 6) gz_37_88 rfl is_82 rd_5 rfl (by omega) (by omega) rfl (fun h201 fh201 => ?_)
                    have gh201 : my_fr [(5, 5), (5, 6), (5, 7), (5, 8)] h h201 := my_fr.up gh163 is_82 fh201 rfl
                    refine w_aload_n gz_37_91 rfl ?_
                    refine v_getI (j := 6) gz_37_92 rfl is_82 rd_5 rfl (fun v202 ev202 pv202 qv202 => ?_)
                    have zv202 := ev202.trans (my_up_self fh201)
                    refine w_ifne (t := 99) gz_37_95 rfl (fun u203 => ?_) (fun u203 => by exfalso; omega)
                    refine w_aload_n gz_37_99 rfl ?_
                    refine w_iconst gz_37_100 (by decide) ?_
                    refine v_putI (j := 8) gz_37_101 rfl is_82 rd_5 rfl (by omega) (by omega) rfl (fun h204 fh204 => ?_)
                    have gh204 : my_fr [(5, 5), (5, 6), (5, 7), (5, 8)] h h204 := my_fr.up gh201 is_82 fh204 rfl
                    refine w_aload_n gz_37_104 rfl ?_
                    refine v_getI (j := 6) gz_37_105 rfl is_82 rd_5 rfl (fun v205 ev205 pv205 qv205 => ?_)
                    have zv205 := ev205.trans ((my_up_fld fh204 (by decide)).trans ev202.symm)
                    refine w_iconst gz_37_108 (by decide) ?_
                    refine w_icne (t := 117) gz_37_109 rfl (fun u206 => ?_) (fun u206 => by exfalso; omega)
                    refine w_aload_n gz_37_117 rfl ?_
                    refine v_getI (j := 6) gz_37_118 rfl is_82 rd_5 rfl (fun v207 ev207 pv207 qv207 => ?_)
                    have zv207 := ev207.trans ev205.symm
                    refine w_iconst gz_37_121 (by decide) ?_
                    refine w_icne (t := 129) gz_37_122 rfl (fun u208 => ?_) (fun u208 => by exfalso; omega)
                    refine w_iconst gz_37_129 (by decide) ?_
                    refine w_istore_n (ls' := [(2, 82), (0, 1), (9, 0)]) gz_37_130 gm_37 rfl rfl rfl ?_
                    refine w_aload_n gz_37_131 rfl ?_
                    refine v_getI (j := 7) gz_37_132 rfl is_82 rd_5 rfl (fun v209 ev209 pv209 qv209 => ?_)
                    have zv209 := ev209.trans ((my_up_fld fh204 (by decide)).trans ((my_up_fld fh201 (by decide)).trans (my_up_self fh163)))
                    refine w_iconst gz_37_135 (by decide) ?_
                    refine w_iadd gz_37_136 ⟨by omega, by omega⟩ ?_
                    refine w_istore_n (ls' := [(2, 82), (0, 1), (0, (v209 + 1))]) gz_37_137 gm_37 rfl rfl rfl ?_
                    have ce210 : h204 82 5 = v168 := ((my_up_fld fh204 (by decide)).trans ((my_up_fld fh201 (by decide)).trans ev168.symm))
                    have ce211 : h204 82 6 = v207 := ev207.symm
                    have ce212 : h204 82 7 = v209 := ev209.symm
                    have ce213 : h204 82 8 = 0 := (my_up_self fh204)
                    have sg : ∀ j : Int, h204 92 j = h0_0 92 j := fun j => ((my_up_role fh204 is_92 is_82 rfl).trans ((my_up_role fh201 is_92 is_82 rfl).trans ((my_up_role fh163 is_92 is_82 rfl).trans (rfl : h0_0 92 j = h0_0 92 j))))
                    exact J138_0 (1001) (1) ((v209 + 1)) (v168) (v207) h204 (gh204) (by omega) (by omega) (by omega) (by omega) (by omega) (by omega) (by omega) (by omega) (by omega) (by omega) (by omega) (by omega) (by omega) (by omega) (by omega) (by omega) (((my_up_fld fh204 (by decide)).trans ((my_up_fld fh201 (by decide)).trans ev165.symm)).trans (by omega)) (((my_up_fld fh204 (by decide)).trans ((my_up_fld fh201 (by decide)).trans ev168.symm)).trans (by omega)) (ev207.symm.trans (by omega)) (ev209.symm.trans (by omega)) ((my_up_self fh204).trans (by omega)) (((my_up_fld fh204 (by decide)).trans ((my_up_fld fh201 (by decide)).trans ((my_up_fld fh163 (by decide)).trans c82_9_0_0))).trans (by omega)) (by omega) (by first | (intro t k a b; rw [sg]; exact dg_181_0 (by omega) k (by omega) (by omega)) | (intro t k a b; rw [sg]; exact dg_138_0 (by omega) k (by omega) (by omega)) | (intro t k a b; rw [sg, ← sg0, sgi k (by omega)]; omega) | (intro t; omega) | (intro t k a b; rw [sg]; rcases (by omega : k = p138_1 ∨ k < p138_1) with q | q <;> first | exact dg_138_0 (by omega) k (by omega) (by omega) | (subst q; omega))) (by first | assumption | omega | (subst_vars; omega)) (by first | assumption | omega | (subst_vars; omega)) (by first | assumption | omega | (subst_vars; omega)) (by omega)
                ·
                  refine w_iconst gz_38_26 (by decide) ?_
                  refine w_iret gz_38_27 gm_38 ?_
                  show wp l rho (d + 1) 37 84 [(2, 82), (9, 0), (9, 0)] [(0, 2), (2, 82)] h163 Q
                  refine w_goto (t := 88) gz_37_84 rfl ?_
                  refine v_putI (j := 6) gz_37_88 rfl is_82 rd_5 rfl (by omega) (by omega) rfl (fun h214 fh214 => ?_)
                  have gh214 : my_fr [(5, 5), (5, 6), (5, 7), (5, 8)] h h214 := my_fr.up gh163 is_82 fh214 rfl
                  refine w_aload_n gz_37_91 rfl ?_
                  refine v_getI (j := 6) gz_37_92 rfl is_82 rd_5 rfl (fun v215 ev215 pv215 qv215 => ?_)
                  have zv215 := ev215.trans (my_up_self fh214)
                  refine w_ifne (t := 99) gz_37_95 rfl (fun u216 => ?_) (fun u216 => by exfalso; omega)
                  refine w_aload_n gz_37_99 rfl ?_
                  refine w_iconst gz_37_100 (by decide) ?_
                  refine v_putI (j := 8) gz_37_101 rfl is_82 rd_5 rfl (by omega) (by omega) rfl (fun h217 fh217 => ?_)
                  have gh217 : my_fr [(5, 5), (5, 6), (5, 7), (5, 8)] h h217 := my_fr.up gh214 is_82 fh217 rfl
                  refine w_aload_n gz_37_104 rfl ?_
                  refine v_getI (j := 6) gz_37_105 rfl is_82 rd_5 rfl (fun v218 ev218 pv218 qv218 => ?_)
                  have zv218 := ev218.trans ((my_up_fld fh217 (by decide)).trans ev215.symm)
                  refine w_iconst gz_37_108 (by decide) ?_
                  refine w_icne (t := 117) gz_37_109 rfl (fun u219 => ?_) (fun u219 => by exfalso; omega)
                  refine w_aload_n gz_37_117 rfl ?_
                  refine v_getI (j := 6) gz_37_118 rfl is_82 rd_5 rfl (fun v220 ev220 pv220 qv220 => ?_)
                  have zv220 := ev220.trans ev218.symm
                  refine w_iconst gz_37_121 (by decide) ?_
                  refine w_icne (t := 129) gz_37_122 rfl (fun u221 => by exfalso; omega) (fun u221 => ?_)
                  refine w_iconst gz_37_125 (by decide) ?_
                  refine w_goto (t := 130) gz_37_126 rfl ?_
                  refine w_istore_n (ls' := [(2, 82), (0, 3), (9, 0)]) gz_37_130 gm_37 rfl rfl rfl ?_
                  refine w_aload_n gz_37_131 rfl ?_
                  refine v_getI (j := 7) gz_37_132 rfl is_82 rd_5 rfl (fun v222 ev222 pv222 qv222 => ?_)
                  have zv222 := ev222.trans ((my_up_fld fh217 (by decide)).trans ((my_up_fld fh214 (by decide)).trans (my_up_self fh163)))
                  refine w_iconst gz_37_135 (by decide) ?_
                  refine w_iadd gz_37_136 ⟨by omega, by omega⟩ ?_
                  refine w_istore_n (ls' := [(2, 82), (0, 3), (0, (v222 + 1))]) gz_37_137 gm_37 rfl rfl rfl ?_
                  have ce223 : h217 82 5 = v168 := ((my_up_fld fh217 (by decide)).trans ((my_up_fld fh214 (by decide)).trans ev168.symm))
                  have ce224 : h217 82 6 = v220 := ev220.symm
                  have ce225 : h217 82 7 = v222 := ev222.symm
                  have ce226 : h217 82 8 = 0 := (my_up_self fh217)
                  have sg : ∀ j : Int, h217 92 j = h0_0 92 j := fun j => ((my_up_role fh217 is_92 is_82 rfl).trans ((my_up_role fh214 is_92 is_82 rfl).trans ((my_up_role fh163 is_92 is_82 rfl).trans (rfl : h0_0 92 j = h0_0 92 j))))
                  exact J138_0 (1001) (3) ((v222 + 1)) (v168) (v220) h217 (gh217) (by omega) (by omega) (by omega) (by omega) (by omega) (by omega) (by omega) (by omega) (by omega) (by omega) (by omega) (by omega) (by omega) (by omega) (by omega) (by omega) (((my_up_fld fh217 (by decide)).trans ((my_up_fld fh214 (by decide)).trans ev165.symm)).trans (by omega)) (((my_up_fld fh217 (by decide)).trans ((my_up_fld fh214 (by decide)).trans ev168.symm)).trans (by omega)) (ev220.symm.trans (by omega)) (ev222.symm.trans (by omega)) ((my_up_self fh217).trans (by omega)) (((my_up_fld fh217 (by decide)).trans ((my_up_fld fh214 (by decide)).trans ((my_up_fld fh163 (by decide)).trans c82_9_0_0))).trans (by omega)) (by omega) (by first | (intro t k a b; rw [sg]; exact dg_181_0 (by omega) k (by omega) (by omega)) | (intro t k a b; rw [sg]; exact dg_138_0 (by omega) k (by omega) (by omega)) | (intro t k a b; rw [sg, ← sg0, sgi k (by omega)]; omega) | (intro t; omega) | (intro t k a b; rw [sg]; rcases (by omega : k = p138_1 ∨ k < p138_1) with q | q <;> first | exact dg_138_0 (by omega) k (by omega) (by omega) | (subst q; omega))) (by first | assumption | omega | (subst_vars; omega)) (by first | assumption | omega | (subst_vars; omega)) (by first | assumption | omega | (subst_vars; omega)) (by omega)
            ·
              refine w_iload_n gz_38_6 rfl ?_
              refine w_bipush gz_38_7 (by decide) ?_
              refine w_icgt (t := 14) gz_38_9 rfl (fun u227 => ?_) (fun u227 => ?_)
              ·
                refine w_iload_n gz_38_14 rfl ?_
                refine w_bipush gz_38_15 (by decide) ?_
                refine w_iclt (t := 28) gz_38_17 rfl (fun u228 => by exfalso; omega) (fun u228 => ?_)
                refine w_iload_n gz_38_20 rfl ?_
                refine w_bipush gz_38_21 (by decide) ?_
                refine w_icgt (t := 28) gz_38_23 rfl (fun u229 => ?_) (fun u229 => by exfalso; omega)
                refine w_iload_n gz_38_28 rfl ?_
                refine w_bipush gz_38_29 (by decide) ?_
                refine w_icne (t := 38) gz_38_31 rfl (fun u230 => ?_) (fun u230 => by exfalso; omega)
                refine w_iconst gz_38_38 (by decide) ?_
                refine w_iret gz_38_39 gm_38 ?_
                show wp l rho (d + 1) 37 84 [(2, 82), (9, 0), (9, 0)] [(0, 4), (2, 82)] h163 Q
                refine w_goto (t := 88) gz_37_84 rfl ?_
                refine v_putI (j := 6) gz_37_88 rfl is_82 rd_5 rfl (by omega) (by omega) rfl (fun h231 fh231 => ?_)
                have gh231 : my_fr [(5, 5), (5, 6), (5, 7), (5, 8)] h h231 := my_fr.up gh163 is_82 fh231 rfl
                refine w_aload_n gz_37_91 rfl ?_
                refine v_getI (j := 6) gz_37_92 rfl is_82 rd_5 rfl (fun v232 ev232 pv232 qv232 => ?_)
                have zv232 := ev232.trans (my_up_self fh231)
                refine w_ifne (t := 99) gz_37_95 rfl (fun u233 => ?_) (fun u233 => by exfalso; omega)
                refine w_aload_n gz_37_99 rfl ?_
                refine w_iconst gz_37_100 (by decide) ?_
                refine v_putI (j := 8) gz_37_101 rfl is_82 rd_5 rfl (by omega) (by omega) rfl (fun h234 fh234 => ?_)
                have gh234 : my_fr [(5, 5), (5, 6), (5, 7), (5, 8)] h h234 := my_fr.up gh231 is_82 fh234 rfl
                refine w_aload_n gz_37_104 rfl ?_
                refine v_getI (j := 6) gz_37_105 rfl is_82 rd_5 rfl (fun v235 ev235 pv235 qv235 => ?_)
                have zv235 := ev235.trans ((my_up_fld fh234 (by decide)).trans ev232.symm)
                refine w_iconst gz_37_108 (by decide) ?_
                refine w_icne (t := 117) gz_37_109 rfl (fun u236 => ?_) (fun u236 => by exfalso; omega)
                refine w_aload_n gz_37_117 rfl ?_
                refine v_getI (j := 6) gz_37_118 rfl is_82 rd_5 rfl (fun v237 ev237 pv237 qv237 => ?_)
                have zv237 := ev237.trans ev235.symm
                refine w_iconst gz_37_121 (by decide) ?_
                refine w_icne (t := 129) gz_37_122 rfl (fun u238 => ?_) (fun u238 => by exfalso; omega)
                refine w_iconst gz_37_129 (by decide) ?_
                refine w_istore_n (ls' := [(2, 82), (0, 1), (9, 0)]) gz_37_130 gm_37 rfl rfl rfl ?_
                refine w_aload_n gz_37_131 rfl ?_
                refine v_getI (j := 7) gz_37_132 rfl is_82 rd_5 rfl (fun v239 ev239 pv239 qv239 => ?_)
                have zv239 := ev239.trans ((my_up_fld fh234 (by decide)).trans ((my_up_fld fh231 (by decide)).trans (my_up_self fh163)))
                refine w_iconst gz_37_135 (by decide) ?_
                refine w_iadd gz_37_136 ⟨by omega, by omega⟩ ?_
                refine w_istore_n (ls' := [(2, 82), (0, 1), (0, (v239 + 1))]) gz_37_137 gm_37 rfl rfl rfl ?_
                have ce240 : h234 82 5 = v168 := ((my_up_fld fh234 (by decide)).trans ((my_up_fld fh231 (by decide)).trans ev168.symm))
                have ce241 : h234 82 6 = v237 := ev237.symm
                have ce242 : h234 82 7 = v239 := ev239.symm
                have ce243 : h234 82 8 = 0 := (my_up_self fh234)
                have sg : ∀ j : Int, h234 92 j = h0_0 92 j := fun j => ((my_up_role fh234 is_92 is_82 rfl).trans ((my_up_role fh231 is_92 is_82 rfl).trans ((my_up_role fh163 is_92 is_82 rfl).trans (rfl : h0_0 92 j = h0_0 92 j))))
                exact J138_0 (1001) (1) ((v239 + 1)) (v168) (v237) h234 (gh234) (by omega) (by omega) (by omega) (by omega) (by omega) (by omega) (by omega) (by omega) (by omega) (by omega) (by omega) (by omega) (by omega) (by omega) (by omega) (by omega) (((my_up_fld fh234 (by decide)).trans ((my_up_fld fh231 (by decide)).trans ev165.symm)).trans (by omega)) (((my_up_fld fh234 (by decide)).trans ((my_up_fld fh231 (by decide)).trans ev168.symm)).trans (by omega)) (ev237.symm.trans (by omega)) (ev239.symm.trans (by omega)) ((my_up_self fh234).trans (by omega)) (((my_up_fld fh234 (by decide)).trans ((my_up_fld fh231 (by decide)).trans ((my_up_fld fh163 (by decide)).trans c82_9_0_0))).trans (by omega)) (by omega) (by first | (intro t k a b; rw [sg]; exact dg_181_0 (by omega) k (by omega) (by omega)) | (intro t k a b; rw [sg]; exact dg_138_0 (by omega) k (by omega) (by omega)) | (intro t k a b; rw [sg, ← sg0, sgi k (by omega)]; omega) | (intro t; omega) | (intro t k a b; rw [sg]; rcases (by omega : k = p138_1 ∨ k < p138_1) with q | q <;> first | exact dg_138_0 (by omega) k (by omega) (by omega) | (subst q; omega))) (by first | assumption | omega | (subst_vars; omega)) (by first | assumption | omega | (subst_vars; omega)) (by first | assumption | omega | (subst_vars; omega)) (by omega)
              ·
                refine w_iconst gz_38_12 (by decide) ?_
                refine w_iret gz_38_13 gm_38 ?_
                show wp l rho (d + 1) 37 84 [(2, 82), (9, 0), (9, 0)] [(0, 1), (2, 82)] h163 Q
                refine w_goto (t := 88) gz_37_84 rfl ?_
                refine v_putI (j := 6) gz_37_88 rfl is_82 rd_5 rfl (by omega) (by omega) rfl (fun h244 fh244 => ?_)
                have gh244 : my_fr [(5, 5), (5, 6), (5, 7), (5, 8)] h h244 := my_fr.up gh163 is_82 fh244 rfl
                refine w_aload_n gz_37_91 rfl ?_
                refine v_getI (j := 6) gz_37_92 rfl is_82 rd_5 rfl (fun v245 ev245 pv245 qv245 => ?_)
                have zv245 := ev245.trans (my_up_self fh244)
                refine w_ifne (t := 99) gz_37_95 rfl (fun u246 => ?_) (fun u246 => by exfalso; omega)
                refine w_aload_n gz_37_99 rfl ?_
                refine w_iconst gz_37_100 (by decide) ?_
                refine v_putI (j := 8) gz_37_101 rfl is_82 rd_5 rfl (by omega) (by omega) rfl (fun h247 fh247 => ?_)
                have gh247 : my_fr [(5, 5), (5, 6), (5, 7), (5, 8)] h h247 := my_fr.up gh244 is_82 fh247 rfl
                refine w_aload_n gz_37_104 rfl ?_
                refine v_getI (j := 6) gz_37_105 rfl is_82 rd_5 rfl (fun v248 ev248 pv248 qv248 => ?_)
                have zv248 := ev248.trans ((my_up_fld fh247 (by decide)).trans ev245.symm)
                refine w_iconst gz_37_108 (by decide) ?_
                refine w_icne (t := 117) gz_37_109 rfl (fun u249 => by exfalso; omega) (fun u249 => ?_)
                refine w_bipush gz_37_112 (by decide) ?_
                refine w_goto (t := 130) gz_37_114 rfl ?_
                refine w_istore_n (ls' := [(2, 82), (0, 8), (9, 0)]) gz_37_130 gm_37 rfl rfl rfl ?_
                refine w_aload_n gz_37_131 rfl ?_
                refine v_getI (j := 7) gz_37_132 rfl is_82 rd_5 rfl (fun v250 ev250 pv250 qv250 => ?_)
                have zv250 := ev250.trans ((my_up_fld fh247 (by decide)).trans ((my_up_fld fh244 (by decide)).trans (my_up_self fh163)))
                refine w_iconst gz_37_135 (by decide) ?_
                refine w_iadd gz_37_136 ⟨by omega, by omega⟩ ?_
                refine w_istore_n (ls' := [(2, 82), (0, 8), (0, (v250 + 1))]) gz_37_137 gm_37 rfl rfl rfl ?_
                have ce251 : h247 82 5 = v168 := ((my_up_fld fh247 (by decide)).trans ((my_up_fld fh244 (by decide)).trans ev168.symm))
                have ce252 : h247 82 6 = v248 := ev248.symm
                have ce253 : h247 82 7 = v250 := ev250.symm
                have ce254 : h247 82 8 = 0 := (my_up_self fh247)
                have sg : ∀ j : Int, h247 92 j = h0_0 92 j := fun j => ((my_up_role fh247 is_92 is_82 rfl).trans ((my_up_role fh244 is_92 is_82 rfl).trans ((my_up_role fh163 is_92 is_82 rfl).trans (rfl : h0_0 92 j = h0_0 92 j))))
                exact J138_0 (1001) (8) ((v250 + 1)) (v168) (v248) h247 (gh247) (by omega) (by omega) (by omega) (by omega) (by omega) (by omega) (by omega) (by omega) (by omega) (by omega) (by omega) (by omega) (by omega) (by omega) (by omega) (by omega) (((my_up_fld fh247 (by decide)).trans ((my_up_fld fh244 (by decide)).trans ev165.symm)).trans (by omega)) (((my_up_fld fh247 (by decide)).trans ((my_up_fld fh244 (by decide)).trans ev168.symm)).trans (by omega)) (ev248.symm.trans (by omega)) (ev250.symm.trans (by omega)) ((my_up_self fh247).trans (by omega)) (((my_up_fld fh247 (by decide)).trans ((my_up_fld fh244 (by decide)).trans ((my_up_fld fh163 (by decide)).trans c82_9_0_0))).trans (by omega)) (by omega) (by first | (intro t k a b; rw [sg]; exact dg_181_0 (by omega) k (by omega) (by omega)) | (intro t k a b; rw [sg]; exact dg_138_0 (by omega) k (by omega) (by omega)) | (intro t k a b; rw [sg, ← sg0, sgi k (by omega)]; omega) | (intro t; omega) | (intro t k a b; rw [sg]; rcases (by omega : k = p138_1 ∨ k < p138_1) with q | q <;> first | exact dg_138_0 (by omega) k (by omega) (by omega) | (subst q; omega))) (by first | assumption | omega | (subst_vars; omega)) (by first | assumption | omega | (subst_vars; omega)) (by first | assumption | omega | (subst_vars; omega)) (by omega)
          ·
            refine w_aload_n gz_37_39 rfl ?_
            refine w_dup gz_37_40 rfl ?_
            refine v_getI (j := 5) gz_37_41 rfl is_82 rd_5 rfl (fun v255 ev255 pv255 qv255 => ?_)
            have zv255 := ev255.trans ev159.symm
            refine w_iconst gz_37_44 (by decide) ?_
            refine w_iadd gz_37_45 ⟨by omega, by omega⟩ ?_
            refine v_putI (j := 5) gz_37_46 rfl is_82 rd_5 rfl (by omega) (by omega) rfl (fun h256 fh256 => ?_)
            have gh256 : my_fr [(5, 5), (5, 6), (5, 7), (5, 8)] h h256 := my_fr.up gh_0_0 is_82 fh256 rfl
            refine w_goto (t := 0) gz_37_49 rfl ?_
            have ce257 : h256 82 5 = (v255 + 1) := (my_up_self fh256)
            exact ih_0_0 ((v255 + 1)) h256 (gh256) (by omega) (by omega) (by omega) (by omega) (by omega) (by omega) (by omega) (((my_up_fld fh256 (by decide)).trans ev139.symm).trans (by omega)) ((my_up_self fh256).trans (by omega)) (((my_up_fld fh256 (by decide)).trans c82_9_0_0).trans (by omega)) (by omega)
  refine w_aload_n gz_37_0 rfl ?_
  refine v_getI (j := 5) gz_37_1 rfl is_82 rd_5 rfl (fun v258 ev258 pv258 qv258 => ?_)
  have zv258 := ev258.trans ek82_5.symm
  refine w_aload_n gz_37_4 rfl ?_
  refine v_getI (j := 4) gz_37_5 rfl is_82 rd_5 rfl (fun v259 ev259 pv259 qv259 => ?_)
  have zv259 := ev259.trans ek82_4.symm
  refine w_icge (t := 52) gz_37_8 rfl (fun u260 => ?_) (fun u260 => ?_)
  ·
    refine w_aload_n gz_37_52 rfl ?_
    refine w_aload_n gz_37_53 rfl ?_
    refine v_getI (j := 5) gz_37_54 rfl is_82 rd_5 rfl (fun v261 ev261 pv261 qv261 => ?_)
    have zv261 := ev261.trans ev258.symm
    refine v_putI (j := 7) gz_37_57 rfl is_82 rd_5 rfl (by omega) (by omega) rfl (fun h262 fh262 => ?_)
    have gh262 : my_fr [(5, 5), (5, 6), (5, 7), (5, 8)] h h262 := my_fr.up my_fr.rf is_82 fh262 rfl
    refine w_aload_n gz_37_60 rfl ?_
    refine w_aload_n gz_37_61 rfl ?_
    refine v_getI (j := 5) gz_37_62 rfl is_82 rd_5 rfl (fun v263 ev263 pv263 qv263 => ?_)
    have zv263 := ev263.trans ((my_up_fld fh262 (by decide)).trans ev261.symm)
    refine w_aload_n gz_37_65 rfl ?_
    refine v_getI (j := 4) gz_37_66 rfl is_82 rd_5 rfl (fun v264 ev264 pv264 qv264 => ?_)
    have zv264 := ev264.trans ((my_up_fld fh262 (by decide)).trans ev259.symm)
    refine w_icge (t := 87) gz_37_69 rfl (fun u265 => ?_) (fun u265 => by exfalso; omega)
    refine w_iconst gz_37_87 (by decide) ?_
    refine v_putI (j := 6) gz_37_88 rfl is_82 rd_5 rfl (by omega) (by omega) rfl (fun h266 fh266 => ?_)
    have gh266 : my_fr [(5, 5), (5, 6), (5, 7), (5, 8)] h h266 := my_fr.up gh262 is_82 fh266 rfl
    refine w_aload_n gz_37_91 rfl ?_
    refine v_getI (j := 6) gz_37_92 rfl is_82 rd_5 rfl (fun v267 ev267 pv267 qv267 => ?_)
    have zv267 := ev267.trans (my_up_self fh266)
    refine w_ifne (t := 99) gz_37_95 rfl (fun u268 => by exfalso; omega) (fun u268 => ?_)
    have c269 := ev267.symm
    have c270 := ((my_up_fld fh266 (by decide)).trans ((my_up_fld fh262 (by decide)).trans cf))
    exact w_vret gz_37_98 gm_37 (k0 h266 (gh266) (by omega) (by omega) (by omega))
  ·
    refine w_aload_n gz_37_11 rfl ?_
    refine w_getX (v := 92) gz_37_12 is_82 rd_5 rfl (by decide) rfl ?_
    refine w_aload_n gz_37_15 rfl ?_
    refine v_getI (j := 5) gz_37_16 rfl is_82 rd_5 rfl (fun v272 ev272 pv272 qv272 => ?_)
    have zv272 := ev272.trans ev258.symm
    refine w_yald gz_37_19 is_92 rd_40 (by omega) (by omega) (fun v273 ev273 pv273 qv273 => ?_)
    refine w_bipush gz_37_20 (by decide) ?_
    refine w_iceq (t := 39) gz_37_22 rfl (fun u274 => ?_) (fun u274 => ?_)
    ·
      refine w_aload_n gz_37_39 rfl ?_
      refine w_dup gz_37_40 rfl ?_
      refine v_getI (j := 5) gz_37_41 rfl is_82 rd_5 rfl (fun v275 ev275 pv275 qv275 => ?_)
      have zv275 := ev275.trans ev272.symm
      refine w_iconst gz_37_44 (by decide) ?_
      refine w_iadd gz_37_45 ⟨by omega, by omega⟩ ?_
      refine v_putI (j := 5) gz_37_46 rfl is_82 rd_5 rfl (by omega) (by omega) rfl (fun h276 fh276 => ?_)
      have gh276 : my_fr [(5, 5), (5, 6), (5, 7), (5, 8)] h h276 := my_fr.up my_fr.rf is_82 fh276 rfl
      refine w_goto (t := 0) gz_37_49 rfl ?_
      have ce277 : h276 82 5 = (v275 + 1) := (my_up_self fh276)
      exact J0_0 (1001) ((v275 + 1)) h276 (gh276) (by omega) (by omega) (by omega) (by omega) (by omega) (by omega) (by omega) (((my_up_fld fh276 (by decide)).trans ev259.symm).trans (by omega)) ((my_up_self fh276).trans (by omega)) (((my_up_fld fh276 (by decide)).trans cf).trans (by omega)) (by omega)
    ·
      refine w_aload_n gz_37_25 rfl ?_
      refine w_getX (v := 92) gz_37_26 is_82 rd_5 rfl (by decide) rfl ?_
      refine w_aload_n gz_37_29 rfl ?_
      refine v_getI (j := 5) gz_37_30 rfl is_82 rd_5 rfl (fun v279 ev279 pv279 qv279 => ?_)
      have zv279 := ev279.trans ev272.symm
      refine w_yald gz_37_33 is_92 rd_40 (by omega) (by omega) (fun v280 ev280 pv280 qv280 => ?_)
      have wv280 : v279 = v272 := by omega
      rw [wv280] at ev280
      have zv280 := ev280.trans ev273.symm
      refine w_bipush gz_37_34 (by decide) ?_
      refine w_icne (t := 52) gz_37_36 rfl (fun u281 => ?_) (fun u281 => ?_)
      ·
        refine w_aload_n gz_37_52 rfl ?_
        refine w_aload_n gz_37_53 rfl ?_
        refine v_getI (j := 5) gz_37_54 rfl is_82 rd_5 rfl (fun v282 ev282 pv282 qv282 => ?_)
        have zv282 := ev282.trans ev279.symm
        refine v_putI (j := 7) gz_37_57 rfl is_82 rd_5 rfl (by omega) (by omega) rfl (fun h283 fh283 => ?_)
        have gh283 : my_fr [(5, 5), (5, 6), (5, 7), (5, 8)] h h283 := my_fr.up my_fr.rf is_82 fh283 rfl
        refine w_aload_n gz_37_60 rfl ?_
        refine w_aload_n gz_37_61 rfl ?_
        refine v_getI (j := 5) gz_37_62 rfl is_82 rd_5 rfl (fun v284 ev284 pv284 qv284 => ?_)
        have zv284 := ev284.trans ((my_up_fld fh283 (by decide)).trans ev282.symm)
        refine w_aload_n gz_37_65 rfl ?_
        refine v_getI (j := 4) gz_37_66 rfl is_82 rd_5 rfl (fun v285 ev285 pv285 qv285 => ?_)
        have zv285 := ev285.trans ((my_up_fld fh283 (by decide)).trans ev259.symm)
        refine w_icge (t := 87) gz_37_69 rfl (fun u286 => by exfalso; omega) (fun u286 => ?_)
        refine w_aload_n gz_37_72 rfl ?_
        refine w_getX (v := 92) gz_37_73 is_82 rd_5 rfl (by decide) rfl ?_
        refine w_aload_n gz_37_76 rfl ?_
        refine v_getI (j := 5) gz_37_77 rfl is_82 rd_5 rfl (fun v288 ev288 pv288 qv288 => ?_)
        have zv288 := ev288.trans ev284.symm
        have sg0 : ∀ j : Int, h283 92 j = h 92 j := fun j => ((my_up_role fh283 is_92 is_82 rfl).trans (rfl : h 92 j = h 92 j))
        refine w_yald gz_37_80 is_92 rd_40 (by omega) (by omega) (fun v289 ev289 pv289 qv289 => ?_)
        have wv289 : v288 = v272 := by omega
        rw [wv289] at ev289
        have zv289 := ev289.trans ((my_up_role fh283 is_92 is_82 rfl).trans ev280.symm)
        have sgi : ∀ k : Int, k = v272 → h283 92 k = v289 := fun k q => by rw [q]; omega
        refine w_inS (k := 0) (as := [(0, v289)]) (r := [(2, 82)]) (ls0 := [(0, v289)]) gz_37_81 gm_38 rfl rfl rfl rfl rfl rfl ?_
        refine w_iload_n gz_38_0 rfl ?_
        refine w_bipush gz_38_1 (by decide) ?_
        refine w_iclt (t := 14) gz_38_3 rfl (fun u290 => ?_) (fun u290 => ?_)
        ·
          refine w_iload_n gz_38_14 rfl ?_
          refine w_bipush gz_38_15 (by decide) ?_
          refine w_iclt (t := 28) gz_38_17 rfl (fun u291 => ?_) (fun u291 => ?_)
          ·
            refine w_iload_n gz_38_28 rfl ?_
            refine w_bipush gz_38_29 (by decide) ?_
            refine w_icne (t := 38) gz_38_31 rfl (fun u292 => ?_) (fun u292 => by exfalso; omega)
            refine w_iconst gz_38_38 (by decide) ?_
            refine w_iret gz_38_39 gm_38 ?_
            show wp l rho (d + 1) 37 84 [(2, 82), (9, 0), (9, 0)] [(0, 4), (2, 82)] h283 Q
            refine w_goto (t := 88) gz_37_84 rfl ?_
            refine v_putI (j := 6) gz_37_88 rfl is_82 rd_5 rfl (by omega) (by omega) rfl (fun h293 fh293 => ?_)
            have gh293 : my_fr [(5, 5), (5, 6), (5, 7), (5, 8)] h h293 := my_fr.up gh283 is_82 fh293 rfl
            refine w_aload_n gz_37_91 rfl ?_
            refine v_getI (j := 6) gz_37_92 rfl is_82 rd_5 rfl (fun v294 ev294 pv294 qv294 => ?_)
            have zv294 := ev294.trans (my_up_self fh293)
            refine w_ifne (t := 99) gz_37_95 rfl (fun u295 => ?_) (fun u295 => by exfalso; omega)
            refine w_aload_n gz_37_99 rfl ?_
            refine w_iconst gz_37_100 (by decide) ?_
            refine v_putI (j := 8) gz_37_101 rfl is_82 rd_5 rfl (by omega) (by omega) rfl (fun h296 fh296 => ?_)
            have gh296 : my_fr [(5, 5), (5, 6), (5, 7), (5, 8)] h h296 := my_fr.up gh293 is_82 fh296 rfl
            refine w_aload_n gz_37_104 rfl ?_
            refine v_getI (j := 6) gz_37_105 rfl is_82 rd_5 rfl (fun v297 ev297 pv297 qv297 => ?_)
            have zv297 := ev297.trans ((my_up_fld fh296 (by decide)).trans ev294.symm)
            refine w_iconst gz_37_108 (by decide) ?_
            refine w_icne (t := 117) gz_37_109 rfl (fun u298 => ?_) (fun u298 => by exfalso; omega)
            refine w_aload_n gz_37_117 rfl ?_
            refine v_getI (j := 6) gz_37_118 rfl is_82 rd_5 rfl (fun v299 ev299 pv299 qv299 => ?_)
            have zv299 := ev299.trans ev297.symm
            refine w_iconst gz_37_121 (by decide) ?_
            refine w_icne (t := 129) gz_37_122 rfl (fun u300 => ?_) (fun u300 => by exfalso; omega)
            refine w_iconst gz_37_129 (by decide) ?_
            refine w_istore_n (ls' := [(2, 82), (0, 1), (9, 0)]) gz_37_130 gm_37 rfl rfl rfl ?_
            refine w_aload_n gz_37_131 rfl ?_
            refine v_getI (j := 7) gz_37_132 rfl is_82 rd_5 rfl (fun v301 ev301 pv301 qv301 => ?_)
            have zv301 := ev301.trans ((my_up_fld fh296 (by decide)).trans ((my_up_fld fh293 (by decide)).trans (my_up_self fh283)))
            refine w_iconst gz_37_135 (by decide) ?_
            refine w_iadd gz_37_136 ⟨by omega, by omega⟩ ?_
            refine w_istore_n (ls' := [(2, 82), (0, 1), (0, (v301 + 1))]) gz_37_137 gm_37 rfl rfl rfl ?_
            have ce302 : h296 82 5 = v288 := ((my_up_fld fh296 (by decide)).trans ((my_up_fld fh293 (by decide)).trans ev288.symm))
            have ce303 : h296 82 6 = v299 := ev299.symm
            have ce304 : h296 82 7 = v301 := ev301.symm
            have ce305 : h296 82 8 = 0 := (my_up_self fh296)
            have sg : ∀ j : Int, h296 92 j = h 92 j := fun j => ((my_up_role fh296 is_92 is_82 rfl).trans ((my_up_role fh293 is_92 is_82 rfl).trans ((my_up_role fh283 is_92 is_82 rfl).trans (rfl : h 92 j = h 92 j))))
            exact J138_0 (1001) (1) ((v301 + 1)) (v288) (v299) h296 (gh296) (by omega) (by omega) (by omega) (by omega) (by omega) (by omega) (by omega) (by omega) (by omega) (by omega) (by omega) (by omega) (by omega) (by omega) (by omega) (by omega) (((my_up_fld fh296 (by decide)).trans ((my_up_fld fh293 (by decide)).trans ev285.symm)).trans (by omega)) (((my_up_fld fh296 (by decide)).trans ((my_up_fld fh293 (by decide)).trans ev288.symm)).trans (by omega)) (ev299.symm.trans (by omega)) (ev301.symm.trans (by omega)) ((my_up_self fh296).trans (by omega)) (((my_up_fld fh296 (by decide)).trans ((my_up_fld fh293 (by decide)).trans ((my_up_fld fh283 (by decide)).trans cf))).trans (by omega)) (by omega) (by first | (intro t k a b; rw [sg]; exact dg_181_0 (by omega) k (by omega) (by omega)) | (intro t k a b; rw [sg]; exact dg_138_0 (by omega) k (by omega) (by omega)) | (intro t k a b; rw [sg, ← sg0, sgi k (by omega)]; omega) | (intro t; omega) | (intro t k a b; rw [sg]; rcases (by omega : k = p138_1 ∨ k < p138_1) with q | q <;> first | exact dg_138_0 (by omega) k (by omega) (by omega) | (subst q; omega))) (by first | assumption | omega | (subst_vars; omega)) (by first | assumption | omega | (subst_vars; omega)) (by first | assumption | omega | (subst_vars; omega)) (by omega)
          ·
            refine w_iload_n gz_38_20 rfl ?_
            refine w_bipush gz_38_21 (by decide) ?_
            refine w_icgt (t := 28) gz_38_23 rfl (fun u306 => ?_) (fun u306 => ?_)
            ·
              refine w_iload_n gz_38_28 rfl ?_
              refine w_bipush gz_38_29 (by decide) ?_
              refine w_icne (t := 38) gz_38_31 rfl (fun u307 => ?_) (fun u307 => ?_)
              ·
                refine w_iconst gz_38_38 (by decide) ?_
                refine w_iret gz_38_39 gm_38 ?_
                show wp l rho (d + 1) 37 84 [(2, 82), (9, 0), (9, 0)] [(0, 4), (2, 82)] h283 Q
                refine w_goto (t := 88) gz_37_84 rfl ?_
                refine v_putI (j := 6) gz_37_88 rfl is_82 rd_5 rfl (by omega) (by omega) rfl (fun h308 fh308 => ?_)
                have gh308 : my_fr [(5, 5), (5, 6), (5, 7), (5, 8)] h h308 := my_fr.up gh283 is_82 fh308 rfl
                refine w_aload_n gz_37_91 rfl ?_
                refine v_getI (j := 6) gz_37_92 rfl is_82 rd_5 rfl (fun v309 ev309 pv309 qv309 => ?_)
                have zv309 := ev309.trans (my_up_self fh308)
                refine w_ifne (t := 99) gz_37_95 rfl (fun u310 => ?_) (fun u310 => by exfalso; omega)
                refine w_aload_n gz_37_99 rfl ?_
                refine w_iconst gz_37_100 (by decide) ?_
                refine v_putI (j := 8) gz_37_101 rfl is_82 rd_5 rfl (by omega) (by omega) rfl (fun h311 fh311 => ?_)
                have gh311 : my_fr [(5, 5), (5, 6), (5, 7), (5, 8)] h h311 := my_fr.up gh308 is_82 fh311 rfl
                refine w_aload_n gz_37_104 rfl ?_
                refine v_getI (j := 6) gz_37_105 rfl is_82 rd_5 rfl (fun v312 ev312 pv312 qv312 => ?_)
                have zv312 := ev312.trans ((my_up_fld fh311 (by decide)).trans ev309.symm)
                refine w_iconst gz_37_108 (by decide) ?_
                refine w_icne (t := 117) gz_37_109 rfl (fun u313 => ?_) (fun u313 => by exfalso; omega)
                refine w_aload_n gz_37_117 rfl ?_
                refine v_getI (j := 6) gz_37_118 rfl is_82 rd_5 rfl (fun v314 ev314 pv314 qv314 => ?_)
                have zv314 := ev314.trans ev312.symm
                refine w_iconst gz_37_121 (by decide) ?_
                refine w_icne (t := 129) gz_37_122 rfl (fun u315 => ?_) (fun u315 => by exfalso; omega)
                refine w_iconst gz_37_129 (by decide) ?_
                refine w_istore_n (ls' := [(2, 82), (0, 1), (9, 0)]) gz_37_130 gm_37 rfl rfl rfl ?_
                refine w_aload_n gz_37_131 rfl ?_
                refine v_getI (j := 7) gz_37_132 rfl is_82 rd_5 rfl (fun v316 ev316 pv316 qv316 => ?_)
                have zv316 := ev316.trans ((my_up_fld fh311 (by decide)).trans ((my_up_fld fh308 (by decide)).trans (my_up_self fh283)))
                refine w_iconst gz_37_135 (by decide) ?_
                refine w_iadd gz_37_136 ⟨by omega, by omega⟩ ?_
                refine w_istore_n (ls' := [(2, 82), (0, 1), (0, (v316 + 1))]) gz_37_137 gm_37 rfl rfl rfl ?_
                have ce317 : h311 82 5 = v288 := ((my_up_fld fh311 (by decide)).trans ((my_up_fld fh308 (by decide)).trans ev288.symm))
                have ce318 : h311 82 6 = v314 := ev314.symm
                have ce319 : h311 82 7 = v316 := ev316.symm
                have ce320 : h311 82 8 = 0 := (my_up_self fh311)
                have sg : ∀ j : Int, h311 92 j = h 92 j := fun j => ((my_up_role fh311 is_92 is_82 rfl).trans ((my_up_role fh308 is_92 is_82 rfl).trans ((my_up_role fh283 is_92 is_82 rfl).trans (rfl : h 92 j = h 92 j))))
                exact J138_0 (1001) (1) ((v316 + 1)) (v288) (v314) h311 (gh311) (by omega) (by omega) (by omega) (by omega) (by omega) (by omega) (by omega) (by omega) (by omega) (by omega) (by omega) (by omega) (by omega) (by omega) (by omega) (by omega) (((my_up_fld fh311 (by decide)).trans ((my_up_fld fh308 (by decide)).trans ev285.symm)).trans (by omega)) (((my_up_fld fh311 (by decide)).trans ((my_up_fld fh308 (by decide)).trans ev288.symm)).trans (by omega)) (ev314.symm.trans (by omega)) (ev316.symm.trans (by omega)) ((my_up_self fh311).trans (by omega)) (((my_up_fld fh311 (by decide)).trans ((my_up_fld fh308 (by decide)).trans ((my_up_fld fh283 (by decide)).trans cf))).trans (by omega)) (by omega) (by first | (intro t k a b; rw [sg]; exact dg_181_0 (by omega) k (by omega) (by omega)) | (intro t k a b; rw [sg]; exact dg_138_0 (by omega) k (by omega) (by omega)) | (intro t k a b; rw [sg, ← sg0, sgi k (by omega)]; omega) | (intro t; omega) | (intro t k a b; rw [sg]; rcases (by omega : k = p138_1 ∨ k < p138_1) with q | q <;> first | exact dg_138_0 (by omega) k (by omega) (by omega) | (subst q; omega))) (by first | assumption | omega | (subst_vars; omega)) (by first | assumption | omega | (subst_vars; omega)) (by first | assumption | omega | (subst_vars; omega)) (by omega)
              ·
                refine w_iconst gz_38_34 (by decide) ?_
                refine w_goto (t := 39) gz_38_35 rfl ?_
                refine w_iret gz_38_39 gm_38 ?_
                show wp l rho (d + 1) 37 84 [(2, 82), (9, 0), (9, 0)] [(0, 3), (2, 82)] h283 Q
                refine w_goto (t := 88) gz_37_84 rfl ?_
                refine v_putI (j := 6) gz_37_88 rfl is_82 rd_5 rfl (by omega) (by omega) rfl (fun h321 fh321 => ?_)
                have gh321 : my_fr [(5, 5), (5, 6), (5, 7), (5, 8)] h h321 := my_fr.up gh283 is_82 fh321 rfl
                refine w_aload_n gz_37_91 rfl ?_
                refine v_getI (j := 6) gz_37_92 rfl is_82 rd_5 rfl (fun v322 ev322 pv322 qv322 => ?_)
                have zv322 := ev322.trans (my_up_self fh321)
                refine w_ifne (t := 99) gz_37_95 rfl (fun u323 => ?_) (fun u323 => by exfalso; omega)
                refine w_aload_n gz_37_99 rfl ?_
                refine w_iconst gz_37_100 (by decide) ?_
                refine v_putI (j := 8) gz_37_101 rfl is_82 rd_5 rfl (by omega) (by omega) rfl (fun h324 fh324 => ?_)
                have gh324 : my_fr [(5, 5), (5, 6), (5, 7), (5, 8)] h h324 := my_fr.up gh321 is_82 fh324 rfl
                refine w_aload_n gz_37_104 rfl ?_
                refine v_getI (j := 6) gz_37_105 rfl is_82 rd_5 rfl (fun v325 ev325 pv325 qv325 => ?_)
                have zv325 := ev325.trans ((my_up_fld fh324 (by decide)).trans ev322.symm)
                refine w_iconst gz_37_108 (by decide) ?_
                refine w_icne (t := 117) gz_37_109 rfl (fun u326 => ?_) (fun u326 => by exfalso; omega)
                refine w_aload_n gz_37_117 rfl ?_
                refine v_getI (j := 6) gz_37_118 rfl is_82 rd_5 rfl (fun v327 ev327 pv327 qv327 => ?_)
                have zv327 := ev327.trans ev325.symm
                refine w_iconst gz_37_121 (by decide) ?_
                refine w_icne (t := 129) gz_37_122 rfl (fun u328 => ?_) (fun u328 => by exfalso; omega)
                refine w_iconst gz_37_129 (by decide) ?_
                refine w_istore_n (ls' := [(2, 82), (0, 1), (9, 0)]) gz_37_130 gm_37 rfl rfl rfl ?_
                refine w_aload_n gz_37_131 rfl ?_
                refine v_getI (j := 7) gz_37_132 rfl is_82 rd_5 rfl (fun v329 ev329 pv329 qv329 => ?_)
                have zv329 := ev329.trans ((my_up_fld fh324 (by decide)).trans ((my_up_fld fh321 (by decide)).trans (my_up_self fh283)))
                refine w_iconst gz_37_135 (by decide) ?_
                refine w_iadd gz_37_136 ⟨by omega, by omega⟩ ?_
                refine w_istore_n (ls' := [(2, 82), (0, 1), (0, (v329 + 1))]) gz_37_137 gm_37 rfl rfl rfl ?_
                have ce330 : h324 82 5 = v288 := ((my_up_fld fh324 (by decide)).trans ((my_up_fld fh321 (by decide)).trans ev288.symm))
                have ce331 : h324 82 6 = v327 := ev327.symm
                have ce332 : h324 82 7 = v329 := ev329.symm
                have ce333 : h324 82 8 = 0 := (my_up_self fh324)
                have sg : ∀ j : Int, h324 92 j = h 92 j := fun j => ((my_up_role fh324 is_92 is_82 rfl).trans ((my_up_role fh321 is_92 is_82 rfl).trans ((my_up_role fh283 is_92 is_82 rfl).trans (rfl : h 92 j = h 92 j))))
                exact J138_0 (1001) (1) ((v329 + 1)) (v288) (v327) h324 (gh324) (by omega) (by omega) (by omega) (by omega) (by omega) (by omega) (by omega) (by omega) (by omega) (by omega) (by omega) (by omega) (by omega) (by omega) (by omega) (by omega) (((my_up_fld fh324 (by decide)).trans ((my_up_fld fh321 (by decide)).trans ev285.symm)).trans (by omega)) (((my_up_fld fh324 (by decide)).trans ((my_up_fld fh321 (by decide)).trans ev288.symm)).trans (by omega)) (ev327.symm.trans (by omega)) (ev329.symm.trans (by omega)) ((my_up_self fh324).trans (by omega)) (((my_up_fld fh324 (by decide)).trans ((my_up_fld fh321 (by decide)).trans ((my_up_fld fh283 (by decide)).trans cf))).trans (by omega)) (by omega) (by first | (intro t k a b; rw [sg]; exact dg_181_0 (by omega) k (by omega) (by omega)) | (intro t k a b; rw [sg]; exact dg_138_0 (by omega) k (by omega) (by omega)) | (intro t k a b; rw [sg, ← sg0, sgi k (by omega)]; omega) | (intro t; omega) | (intro t k a b; rw [sg]; rcases (by omega : k = p138_1 ∨ k < p138_1) with q | q <;> first | exact dg_138_0 (by omega) k (by omega) (by omega) | (subst q; omega))) (by first | assumption | omega | (subst_vars; omega)) (by first | assumption | omega | (subst_vars; omega)) (by first | assumption | omega | (subst_vars; omega)) (by omega)
            ·
              refine w_iconst gz_38_26 (by decide) ?_
              refine w_iret gz_38_27 gm_38 ?_
              show wp l rho (d + 1) 37 84 [(2, 82), (9, 0), (9, 0)] [(0, 2), (2, 82)] h283 Q
              refine w_goto (t := 88) gz_37_84 rfl ?_
              refine v_putI (j := 6) gz_37_88 rfl is_82 rd_5 rfl (by omega) (by omega) rfl (fun h334 fh334 => ?_)
              have gh334 : my_fr [(5, 5), (5, 6), (5, 7), (5, 8)] h h334 := my_fr.up gh283 is_82 fh334 rfl
              refine w_aload_n gz_37_91 rfl ?_
              refine v_getI (j := 6) gz_37_92 rfl is_82 rd_5 rfl (fun v335 ev335 pv335 qv335 => ?_)
              have zv335 := ev335.trans (my_up_self fh334)
              refine w_ifne (t := 99) gz_37_95 rfl (fun u336 => ?_) (fun u336 => by exfalso; omega)
              refine w_aload_n gz_37_99 rfl ?_
              refine w_iconst gz_37_100 (by decide) ?_
              refine v_putI (j := 8) gz_37_101 rfl is_82 rd_5 rfl (by omega) (by omega) rfl (fun h337 fh337 => ?_)
              have gh337 : my_fr [(5, 5), (5, 6), (5, 7), (5, 8)] h h337 := my_fr.up gh334 is_82 fh337 rfl
              refine w_aload_n gz_37_104 rfl ?_
              refine v_getI (j := 6) gz_37_105 rfl is_82 rd_5 rfl (fun v338 ev338 pv338 qv338 => ?_)
              have zv338 := ev338.trans ((my_up_fld fh337 (by decide)).trans ev335.symm)
              refine w_iconst gz_37_108 (by decide) ?_
              refine w_icne (t := 117) gz_37_109 rfl (fun u339 => ?_) (fun u339 => by exfalso; omega)
              refine w_aload_n gz_37_117 rfl ?_
              refine v_getI (j := 6) gz_37_118 rfl is_82 rd_5 rfl (fun v340 ev340 pv340 qv340 => ?_)
              have zv340 := ev340.trans ev338.symm
              refine w_iconst gz_37_121 (by decide) ?_
              refine w_icne (t := 129) gz_37_122 rfl (fun u341 => by exfalso; omega) (fun u341 => ?_)
              refine w_iconst gz_37_125 (by decide) ?_
              refine w_goto (t := 130) gz_37_126 rfl ?_
              refine w_istore_n (ls' := [(2, 82), (0, 3), (9, 0)]) gz_37_130 gm_37 rfl rfl rfl ?_
              refine w_aload_n gz_37_131 rfl ?_
              refine v_getI (j := 7) gz_37_132 rfl is_82 rd_5 rfl (fun v342 ev342 pv342 qv342 => ?_)
              have zv342 := ev342.trans ((my_up_fld fh337 (by decide)).trans ((my_up_fld fh334 (by decide)).trans (my_up_self fh283)))
              refine w_iconst gz_37_135 (by decide) ?_
              refine w_iadd gz_37_136 ⟨by omega, by omega⟩ ?_
              refine w_istore_n (ls' := [(2, 82), (0, 3), (0, (v342 + 1))]) gz_37_137 gm_37 rfl rfl rfl ?_
              have ce343 : h337 82 5 = v288 := ((my_up_fld fh337 (by decide)).trans ((my_up_fld fh334 (by decide)).trans ev288.symm))
              have ce344 : h337 82 6 = v340 := ev340.symm
              have ce345 : h337 82 7 = v342 := ev342.symm
              have ce346 : h337 82 8 = 0 := (my_up_self fh337)
              have sg : ∀ j : Int, h337 92 j = h 92 j := fun j => ((my_up_role fh337 is_92 is_82 rfl).trans ((my_up_role fh334 is_92 is_82 rfl).trans ((my_up_role fh283 is_92 is_82 rfl).trans (rfl : h 92 j = h 92 j))))
              exact J138_0 (1001) (3) ((v342 + 1)) (v288) (v340) h337 (gh337) (by omega) (by omega) (by omega) (by omega) (by omega) (by omega) (by omega) (by omega) (by omega) (by omega) (by omega) (by omega) (by omega) (by omega) (by omega) (by omega) (((my_up_fld fh337 (by decide)).trans ((my_up_fld fh334 (by decide)).trans ev285.symm)).trans (by omega)) (((my_up_fld fh337 (by decide)).trans ((my_up_fld fh334 (by decide)).trans ev288.symm)).trans (by omega)) (ev340.symm.trans (by omega)) (ev342.symm.trans (by omega)) ((my_up_self fh337).trans (by omega)) (((my_up_fld fh337 (by decide)).trans ((my_up_fld fh334 (by decide)).trans ((my_up_fld fh283 (by decide)).trans cf))).trans (by omega)) (by omega) (by first | (intro t k a b; rw [sg]; exact dg_181_0 (by omega) k (by omega) (by omega)) | (intro t k a b; rw [sg]; exact dg_138_0 (by omega) k (by omega) (by omega)) | (intro t k a b; rw [sg, ← sg0, sgi k (by omega)]; omega) | (intro t; omega) | (intro t k a b; rw [sg]; rcases (by omega : k = p138_1 ∨ k < p138_1) with q | q <;> first | exact dg_138_0 (by omega) k (by omega) (by omega) | (subst q; omega))) (by first | assumption | omega | (subst_vars; omega)) (by first | assumption | omega | (subst_vars; omega)) (by first | assumption | omega | (subst_vars; omega)) (by omega)
        ·
          refine w_iload_n gz_38_6 rfl ?_
          refine w_bipush gz_38_7 (by decide) ?_
          refine w_icgt (t := 14) gz_38_9 rfl (fun u347 => ?_) (fun u347 => ?_)
          ·
            refine w_iload_n gz_38_14 rfl ?_
            refine w_bipush gz_38_15 (by decide) ?_
            refine w_iclt (t := 28) gz_38_17 rfl (fun u348 => by exfalso; omega) (fun u348 => ?_)
            refine w_iload_n gz_38_20 rfl ?_
            refine w_bipush gz_38_21 (by decide) ?_
            refine w_icgt (t := 28) gz_38_23 rfl (fun u349 => ?_) (fun u349 => by exfalso; omega)
            refine w_iload_n gz_38_28 rfl ?_
            refine w_bipush gz_38_29 (by decide) ?_
            refine w_icne (t := 38) gz_38_31 rfl (fun u350 => ?_) (fun u350 => by exfalso; omega)
            refine w_iconst gz_38_38 (by decide) ?_
            refine w_iret gz_38_39 gm_38 ?_
            show wp l rho (d + 1) 37 84 [(2, 82), (9, 0), (9, 0)] [(0, 4), (2, 82)] h283 Q
            refine w_goto (t := 88) gz_37_84 rfl ?_
            refine v_putI (j := 6) gz_37_88 rfl is_82 rd_5 rfl (by omega) (by omega) rfl (fun h351 fh351 => ?_)
            have gh351 : my_fr [(5, 5), (5, 6), (5, 7), (5, 8)] h h351 := my_fr.up gh283 is_82 fh351 rfl
            refine w_aload_n gz_37_91 rfl ?_
            refine v_getI (j := 6) gz_37_92 rfl is_82 rd_5 rfl (fun v352 ev352 pv352 qv352 => ?_)
            have zv352 := ev352.trans (my_up_self fh351)
            refine w_ifne (t := 99) gz_37_95 rfl (fun u353 => ?_) (fun u353 => by exfalso; omega)
            refine w_aload_n gz_37_99 rfl ?_
            refine w_iconst gz_37_100 (by decide) ?_
            refine v_putI (j := 8) gz_37_101 rfl is_82 rd_5 rfl (by omega) (by omega) rfl (fun h354 fh354 => ?_)
            have gh354 : my_fr [(5, 5), (5, 6), (5, 7), (5, 8)] h h354 := my_fr.up gh351 is_82 fh354 rfl
            refine w_aload_n gz_37_104 rfl ?_
            refine v_getI (j := 6) gz_37_105 rfl is_82 rd_5 rfl (fun v355 ev355 pv355 qv355 => ?_)
            have zv355 := ev355.trans ((my_up_fld fh354 (by decide)).trans ev352.symm)
            refine w_iconst gz_37_108 (by decide) ?_
            refine w_icne (t := 117) gz_37_109 rfl (fun u356 => ?_) (fun u356 => by exfalso; omega)
            refine w_aload_n gz_37_117 rfl ?_
            refine v_getI (j := 6) gz_37_118 rfl is_82 rd_5 rfl (fun v357 ev357 pv357 qv357 => ?_)
            have zv357 := ev357.trans ev355.symm
            refine w_iconst gz_37_121 (by decide) ?_
            refine w_icne (t := 129) gz_37_122 rfl (fun u358 => ?_) (fun u358 => by exfalso; omega)
            refine w_iconst gz_37_129 (by decide) ?_
            refine w_istore_n (ls' := [(2, 82), (0, 1), (9, 0)]) gz_37_130 gm_37 rfl rfl rfl ?_
            refine w_aload_n gz_37_131 rfl ?_
            refine v_getI (j := 7) gz_37_132 rfl is_82 rd_5 rfl (fun v359 ev359 pv359 qv359 => ?_)
            have zv359 := ev359.trans ((my_up_fld fh354 (by decide)).trans ((my_up_fld fh351 (by decide)).trans (my_up_self fh283)))
            refine w_iconst gz_37_135 (by decide) ?_
            refine w_iadd gz_37_136 ⟨by omega, by omega⟩ ?_
            refine w_istore_n (ls' := [(2, 82), (0, 1), (0, (v359 + 1))]) gz_37_137 gm_37 rfl rfl rfl ?_
            have ce360 : h354 82 5 = v288 := ((my_up_fld fh354 (by decide)).trans ((my_up_fld fh351 (by decide)).trans ev288.symm))
            have ce361 : h354 82 6 = v357 := ev357.symm
            have ce362 : h354 82 7 = v359 := ev359.symm
            have ce363 : h354 82 8 = 0 := (my_up_self fh354)
            have sg : ∀ j : Int, h354 92 j = h 92 j := fun j => ((my_up_role fh354 is_92 is_82 rfl).trans ((my_up_role fh351 is_92 is_82 rfl).trans ((my_up_role fh283 is_92 is_82 rfl).trans (rfl : h 92 j = h 92 j))))
            exact J138_0 (1001) (1) ((v359 + 1)) (v288) (v357) h354 (gh354) (by omega) (by omega) (by omega) (by omega) (by omega) (by omega) (by omega) (by omega) (by omega) (by omega) (by omega) (by omega) (by omega) (by omega) (by omega) (by omega) (((my_up_fld fh354 (by decide)).trans ((my_up_fld fh351 (by decide)).trans ev285.symm)).trans (by omega)) (((my_up_fld fh354 (by decide)).trans ((my_up_fld fh351 (by decide)).trans ev288.symm)).trans (by omega)) (ev357.symm.trans (by omega)) (ev359.symm.trans (by omega)) ((my_up_self fh354).trans (by omega)) (((my_up_fld fh354 (by decide)).trans ((my_up_fld fh351 (by decide)).trans ((my_up_fld fh283 (by decide)).trans cf))).trans (by omega)) (by omega) (by first | (intro t k a b; rw [sg]; exact dg_181_0 (by omega) k (by omega) (by omega)) | (intro t k a b; rw [sg]; exact dg_138_0 (by omega) k (by omega) (by omega)) | (intro t k a b; rw [sg, ← sg0, sgi k (by omega)]; omega) | (intro t; omega) | (intro t k a b; rw [sg]; rcases (by omega : k = p138_1 ∨ k < p138_1) with q | q <;> first | exact dg_138_0 (by omega) k (by omega) (by omega) | (subst q; omega))) (by first | assumption | omega | (subst_vars; omega)) (by first | assumption | omega | (subst_vars; omega)) (by first | assumption | omega | (subst_vars; omega)) (by omega)
          ·
            refine w_iconst gz_38_12 (by decide) ?_
            refine w_iret gz_38_13 gm_38 ?_
            show wp l rho (d + 1) 37 84 [(2, 82), (9, 0), (9, 0)] [(0, 1), (2, 82)] h283 Q
            refine w_goto (t := 88) gz_37_84 rfl ?_
            refine v_putI (j := 6) gz_37_88 rfl is_82 rd_5 rfl (by omega) (by omega) rfl (fun h364 fh364 => ?_)
            have gh364 : my_fr [(5, 5), (5, 6), (5, 7), (5, 8)] h h364 := my_fr.up gh283 is_82 fh364 rfl
            refine w_aload_n gz_37_91 rfl ?_
            refine v_getI (j := 6) gz_37_92 rfl is_82 rd_5 rfl (fun v365 ev365 pv365 qv365 => ?_)
            have zv365 := ev365.trans (my_up_self fh364)
            refine w_ifne (t := 99) gz_37_95 rfl (fun u366 => ?_) (fun u366 => by exfalso; omega)
            refine w_aload_n gz_37_99 rfl ?_
            refine w_iconst gz_37_100 (by decide) ?_
            refine v_putI (j := 8) gz_37_101 rfl is_82 rd_5 rfl (by omega) (by omega) rfl (fun h367 fh367 => ?_)
            have gh367 : my_fr [(5, 5), (5, 6), (5, 7), (5, 8)] h h367 := my_fr.up gh364 is_82 fh367 rfl
            refine w_aload_n gz_37_104 rfl ?_
            refine v_getI (j := 6) gz_37_105 rfl is_82 rd_5 rfl (fun v368 ev368 pv368 qv368 => ?_)
            have zv368 := ev368.trans ((my_up_fld fh367 (by decide)).trans ev365.symm)
            refine w_iconst gz_37_108 (by decide) ?_
            refine w_icne (t := 117) gz_37_109 rfl (fun u369 => by exfalso; omega) (fun u369 => ?_)
            refine w_bipush gz_37_112 (by decide) ?_
            refine w_goto (t := 130) gz_37_114 rfl ?_
            refine w_istore_n (ls' := [(2, 82), (0, 8), (9, 0)]) gz_37_130 gm_37 rfl rfl rfl ?_
            refine w_aload_n gz_37_131 rfl ?_
            refine v_getI (j := 7) gz_37_132 rfl is_82 rd_5 rfl (fun v370 ev370 pv370 qv370 => ?_)
            have zv370 := ev370.trans ((my_up_fld fh367 (by decide)).trans ((my_up_fld fh364 (by decide)).trans (my_up_self fh283)))
            refine w_iconst gz_37_135 (by decide) ?_
            refine w_iadd gz_37_136 ⟨by omega, by omega⟩ ?_
            refine w_istore_n (ls' := [(2, 82), (0, 8), (0, (v370 + 1))]) gz_37_137 gm_37 rfl rfl rfl ?_
            have ce371 : h367 82 5 = v288 := ((my_up_fld fh367 (by decide)).trans ((my_up_fld fh364 (by decide)).trans ev288.symm))
            have ce372 : h367 82 6 = v368 := ev368.symm
            have ce373 : h367 82 7 = v370 := ev370.symm
            have ce374 : h367 82 8 = 0 := (my_up_self fh367)
            have sg : ∀ j : Int, h367 92 j = h 92 j := fun j => ((my_up_role fh367 is_92 is_82 rfl).trans ((my_up_role fh364 is_92 is_82 rfl).trans ((my_up_role fh283 is_92 is_82 rfl).trans (rfl : h 92 j = h 92 j))))
            exact J138_0 (1001) (8) ((v370 + 1)) (v288) (v368) h367 (gh367) (by omega) (by omega) (by omega) (by omega) (by omega) (by omega) (by omega) (by omega) (by omega) (by omega) (by omega) (by omega) (by omega) (by omega) (by omega) (by omega) (((my_up_fld fh367 (by decide)).trans ((my_up_fld fh364 (by decide)).trans ev285.symm)).trans (by omega)) (((my_up_fld fh367 (by decide)).trans ((my_up_fld fh364 (by decide)).trans ev288.symm)).trans (by omega)) (ev368.symm.trans (by omega)) (ev370.symm.trans (by omega)) ((my_up_self fh367).trans (by omega)) (((my_up_fld fh367 (by decide)).trans ((my_up_fld fh364 (by decide)).trans ((my_up_fld fh283 (by decide)).trans cf))).trans (by omega)) (by omega) (by first | (intro t k a b; rw [sg]; exact dg_181_0 (by omega) k (by omega) (by omega)) | (intro t k a b; rw [sg]; exact dg_138_0 (by omega) k (by omega) (by omega)) | (intro t k a b; rw [sg, ← sg0, sgi k (by omega)]; omega) | (intro t; omega) | (intro t k a b; rw [sg]; rcases (by omega : k = p138_1 ∨ k < p138_1) with q | q <;> first | exact dg_138_0 (by omega) k (by omega) (by omega) | (subst q; omega))) (by first | assumption | omega | (subst_vars; omega)) (by first | assumption | omega | (subst_vars; omega)) (by first | assumption | omega | (subst_vars; omega)) (by omega)
      ·
        refine w_aload_n gz_37_39 rfl ?_
        refine w_dup gz_37_40 rfl ?_
        refine v_getI (j := 5) gz_37_41 rfl is_82 rd_5 rfl (fun v375 ev375 pv375 qv375 => ?_)
        have zv375 := ev375.trans ev279.symm
        refine w_iconst gz_37_44 (by decide) ?_
        refine w_iadd gz_37_45 ⟨by omega, by omega⟩ ?_
        refine v_putI (j := 5) gz_37_46 rfl is_82 rd_5 rfl (by omega) (by omega) rfl (fun h376 fh376 => ?_)
        have gh376 : my_fr [(5, 5), (5, 6), (5, 7), (5, 8)] h h376 := my_fr.up my_fr.rf is_82 fh376 rfl
        refine w_goto (t := 0) gz_37_49 rfl ?_
        have ce377 : h376 82 5 = (v375 + 1) := (my_up_self fh376)
        exact J0_0 (1001) ((v375 + 1)) h376 (gh376) (by omega) (by omega) (by omega) (by omega) (by omega) (by omega) (by omega) (((my_up_fld fh376 (by decide)).trans ev259.symm).trans (by omega)) ((my_up_self fh376).trans (by omega)) (((my_up_fld fh376 (by decide)).trans cf).trans (by omega)) (by omega)
theorem c_Reader_isWord_f1 {l : Launch} {rho : Nat → Int32} {d : Nat} {h : my_H} {Q : my_H → my_V → Prop} {x1 : Int} (s1 : 1 ≤ x1 ∧ x1 ≤ 12) (xf : Int) (cf : h 82 9 = xf) (cf1 : 1 ≤ xf) (cf2 : xf ≤ 16005) (k0 : 1 ≤ h 82 9 → h 82 9 ≤ 16005 → Q h (0, 0)) (k1 : h 82 6 = 1 → 1 ≤ h 82 9 → h 82 9 ≤ 16005 → Q h (0, 1)) : wp l rho (d + 4) 41 0 [(2, 82), (3, x1), (9, 0)] [] h Q := by
  refine v_know (x := 82) (j := 5) (b := 5) rfl is_82 rd_5 rfl (fun k82_5 ek82_5 pk82_5 qk82_5 => ?_)
  refine v_know (x := 82) (j := 7) (b := 7) rfl is_82 rd_5 rfl (fun k82_7 ek82_7 pk82_7 qk82_7 => ?_)
  have J28_0 : ∀ (n : Nat) (p28_0 p28_1 : Int), 0 ≤ p28_0 → p28_0 ≤ 6 → 1 ≤ p28_1 → p28_1 ≤ 16005 → h 82 5 = k82_5 → h 82 6 = 1 → h 82 7 = k82_7 → h 82 9 = p28_1 → h 82 5 - h 82 7 = my_sl x1 → 7 - p28_0 ≤ (n : Int) → wp l rho (d + 4) 41 28 [(2, 82), (3, x1), (0, p28_0)] [] h Q := by
    intro n
    induction n with
    | zero => intro p28_0 p28_1 q0_28_0 q1_28_0 q2_28_0 q3_28_0 c82_5_28_0 c82_6_28_0 c82_7_28_0 c82_9_28_0 ln_28_0 hm_28_0; exfalso; omega
    | succ n ih_28_0 =>
      intro p28_0 p28_1 q0_28_0 q1_28_0 q2_28_0 q3_28_0 c82_5_28_0 c82_6_28_0 c82_7_28_0 c82_9_28_0 ln_28_0 hm_28_0
      refine w_iload_n gz_41_28 rfl ?_
      refine w_aload3_n gz_41_29 rfl ?_
      refine w_slen (q := 177) sdec_30 s1 ?_
      have bd1 := my_sl_bd s1
      refine w_icge (t := 63) gz_41_33 rfl (fun u2 => ?_) (fun u2 => ?_)
      ·
        refine w_iconst gz_41_63 (by decide) ?_
        have c3 := c82_6_28_0
        have c4 := c82_9_28_0
        exact w_bret gz_41_64 gm_41 (by omega) (by omega) (k1 (by omega) (by omega) (by omega))
      ·
        refine w_aload_n gz_41_36 rfl ?_
        refine w_getX (v := 92) gz_41_37 is_82 rd_5 rfl (by decide) rfl ?_
        refine w_aload_n gz_41_40 rfl ?_
        refine v_getI (j := 7) gz_41_41 rfl is_82 rd_5 rfl (fun v6 ev6 pv6 qv6 => ?_)
        have zv6 := ev6.trans c82_7_28_0
        refine w_iload_n gz_41_44 rfl ?_
        refine w_iadd gz_41_45 ⟨by omega, by omega⟩ ?_
        have hi7 : 0 ≤ (v6 + p28_0) := by omega
        have hi8 : (v6 + p28_0) ≤ 999 := by omega
        refine w_yald gz_41_46 is_92 rd_40 (by omega) (by omega) (fun v9 ev9 pv9 qv9 => ?_)
        refine w_aload3_n gz_41_47 rfl ?_
        refine w_iload_n gz_41_48 rfl ?_
        refine w_schr (q := 181) sdec_49 s1 (by omega) (by omega) (fun v10 pv10 qv10 => ?_)
        refine w_iceq (t := 57) gz_41_52 rfl (fun u11 => ?_) (fun u11 => ?_)
        ·
          refine w_iinc (ls' := [(2, 82), (3, x1), (0, (p28_0 + 1))]) gz_41_57 rfl gm_41 rfl rfl rfl ⟨by omega, by omega⟩ ?_
          refine w_goto (t := 28) gz_41_60 rfl ?_
          exact ih_28_0 ((p28_0 + 1)) (p28_1) (by omega) (by omega) (by omega) (by omega) (c82_5_28_0.trans (by omega)) (c82_6_28_0.trans (by omega)) (ev6.symm.trans (by omega)) (c82_9_28_0.trans (by omega)) (by first | assumption | omega | (subst_vars; omega)) (by omega)
        ·
          refine w_iconst gz_41_55 (by decide) ?_
          have c12 := c82_9_28_0
          exact w_bret gz_41_56 gm_41 (by omega) (by omega) (k0 (by omega) (by omega))
  refine w_aload_n gz_41_0 rfl ?_
  refine v_getI (j := 6) gz_41_1 rfl is_82 rd_5 rfl (fun v13 ev13 pv13 qv13 => ?_)
  refine w_iconst gz_41_4 (by decide) ?_
  refine w_icne (t := 24) gz_41_5 rfl (fun u14 => ?_) (fun u14 => ?_)
  ·
    refine w_iconst gz_41_24 (by decide) ?_
    have c15 := cf
    exact w_bret gz_41_25 gm_41 (by omega) (by omega) (k0 (by omega) (by omega))
  ·
    refine w_aload_n gz_41_8 rfl ?_
    refine v_getI (j := 5) gz_41_9 rfl is_82 rd_5 rfl (fun v16 ev16 pv16 qv16 => ?_)
    have zv16 := ev16.trans ek82_5.symm
    refine w_aload_n gz_41_12 rfl ?_
    refine v_getI (j := 7) gz_41_13 rfl is_82 rd_5 rfl (fun v17 ev17 pv17 qv17 => ?_)
    have zv17 := ev17.trans ek82_7.symm
    refine w_isub gz_41_16 ⟨by omega, by omega⟩ ?_
    refine w_aload3_n gz_41_17 rfl ?_
    refine w_slen (q := 177) sdec_18 s1 ?_
    have bd18 := my_sl_bd s1
    refine w_iceq (t := 26) gz_41_21 rfl (fun u19 => ?_) (fun u19 => ?_)
    ·
      refine w_iconst gz_41_26 (by decide) ?_
      refine w_istore_n (ls' := [(2, 82), (3, x1), (0, 0)]) gz_41_27 gm_41 rfl rfl rfl ?_
      exact J28_0 7 (0) (xf) (by omega) (by omega) (by omega) (by omega) (ev16.symm.trans (by omega)) (ev13.symm.trans (by omega)) (ev17.symm.trans (by omega)) (cf.trans (by omega)) (by first | assumption | omega | (subst_vars; omega)) (by omega)
    ·
      refine w_iconst gz_41_24 (by decide) ?_
      have c20 := cf
      exact w_bret gz_41_25 gm_41 (by omega) (by omega) (k0 (by omega) (by omega))
theorem c_Reader_isWord_f0 {l : Launch} {rho : Nat → Int32} {d : Nat} {h : my_H} {Q : my_H → my_V → Prop} {x1 : Int} (s1 : 1 ≤ x1 ∧ x1 ≤ 12) (cf : h 82 9 = 0) (k0 : h 82 9 = 0 → Q h (0, 0)) (k1 : h 82 6 = 1 → h 82 9 = 0 → Q h (0, 1)) : wp l rho (d + 4) 41 0 [(2, 82), (3, x1), (9, 0)] [] h Q := by
  refine v_know (x := 82) (j := 5) (b := 5) rfl is_82 rd_5 rfl (fun k82_5 ek82_5 pk82_5 qk82_5 => ?_)
  refine v_know (x := 82) (j := 7) (b := 7) rfl is_82 rd_5 rfl (fun k82_7 ek82_7 pk82_7 qk82_7 => ?_)
  have J28_0 : ∀ (n : Nat) (p28_0 : Int), 0 ≤ p28_0 → p28_0 ≤ 6 → h 82 5 = k82_5 → h 82 6 = 1 → h 82 7 = k82_7 → h 82 9 = 0 → h 82 5 - h 82 7 = my_sl x1 → 7 - p28_0 ≤ (n : Int) → wp l rho (d + 4) 41 28 [(2, 82), (3, x1), (0, p28_0)] [] h Q := by
    intro n
    induction n with
    | zero => intro p28_0 q0_28_0 q1_28_0 c82_5_28_0 c82_6_28_0 c82_7_28_0 c82_9_28_0 ln_28_0 hm_28_0; exfalso; omega
    | succ n ih_28_0 =>
      intro p28_0 q0_28_0 q1_28_0 c82_5_28_0 c82_6_28_0 c82_7_28_0 c82_9_28_0 ln_28_0 hm_28_0
      refine w_iload_n gz_41_28 rfl ?_
      refine w_aload3_n gz_41_29 rfl ?_
      refine w_slen (q := 177) sdec_30 s1 ?_
      have bd1 := my_sl_bd s1
      refine w_icge (t := 63) gz_41_33 rfl (fun u2 => ?_) (fun u2 => ?_)
      ·
        refine w_iconst gz_41_63 (by decide) ?_
        have c3 := c82_6_28_0
        have c4 := c82_9_28_0
        exact w_bret gz_41_64 gm_41 (by omega) (by omega) (k1 (by omega) (by omega))
      ·
        refine w_aload_n gz_41_36 rfl ?_
        refine w_getX (v := 92) gz_41_37 is_82 rd_5 rfl (by decide) rfl ?_
        refine w_aload_n gz_41_40 rfl ?_
        refine v_getI (j := 7) gz_41_41 rfl is_82 rd_5 rfl (fun v6 ev6 pv6 qv6 => ?_)
        have zv6 := ev6.trans c82_7_28_0
        refine w_iload_n gz_41_44 rfl ?_
        refine w_iadd gz_41_45 ⟨by omega, by omega⟩ ?_
        have hi7 : 0 ≤ (v6 + p28_0) := by omega
        have hi8 : (v6 + p28_0) ≤ 999 := by omega
        refine w_yald gz_41_46 is_92 rd_40 (by omega) (by omega) (fun v9 ev9 pv9 qv9 => ?_)
        refine w_aload3_n gz_41_47 rfl ?_
        refine w_iload_n gz_41_48 rfl ?_
        refine w_schr (q := 181) sdec_49 s1 (by omega) (by omega) (fun v10 pv10 qv10 => ?_)
        refine w_iceq (t := 57) gz_41_52 rfl (fun u11 => ?_) (fun u11 => ?_)
        ·
          refine w_iinc (ls' := [(2, 82), (3, x1), (0, (p28_0 + 1))]) gz_41_57 rfl gm_41 rfl rfl rfl ⟨by omega, by omega⟩ ?_
          refine w_goto (t := 28) gz_41_60 rfl ?_
          exact ih_28_0 ((p28_0 + 1)) (by omega) (by omega) (c82_5_28_0.trans (by omega)) (c82_6_28_0.trans (by omega)) (ev6.symm.trans (by omega)) (c82_9_28_0.trans (by omega)) (by first | assumption | omega | (subst_vars; omega)) (by omega)
        ·
          refine w_iconst gz_41_55 (by decide) ?_
          have c12 := c82_9_28_0
          exact w_bret gz_41_56 gm_41 (by omega) (by omega) (k0 (by omega))
  refine w_aload_n gz_41_0 rfl ?_
  refine v_getI (j := 6) gz_41_1 rfl is_82 rd_5 rfl (fun v13 ev13 pv13 qv13 => ?_)
  refine w_iconst gz_41_4 (by decide) ?_
  refine w_icne (t := 24) gz_41_5 rfl (fun u14 => ?_) (fun u14 => ?_)
  ·
    refine w_iconst gz_41_24 (by decide) ?_
    have c15 := cf
    exact w_bret gz_41_25 gm_41 (by omega) (by omega) (k0 (by omega))
  ·
    refine w_aload_n gz_41_8 rfl ?_
    refine v_getI (j := 5) gz_41_9 rfl is_82 rd_5 rfl (fun v16 ev16 pv16 qv16 => ?_)
    have zv16 := ev16.trans ek82_5.symm
    refine w_aload_n gz_41_12 rfl ?_
    refine v_getI (j := 7) gz_41_13 rfl is_82 rd_5 rfl (fun v17 ev17 pv17 qv17 => ?_)
    have zv17 := ev17.trans ek82_7.symm
    refine w_isub gz_41_16 ⟨by omega, by omega⟩ ?_
    refine w_aload3_n gz_41_17 rfl ?_
    refine w_slen (q := 177) sdec_18 s1 ?_
    have bd18 := my_sl_bd s1
    refine w_iceq (t := 26) gz_41_21 rfl (fun u19 => ?_) (fun u19 => ?_)
    ·
      refine w_iconst gz_41_26 (by decide) ?_
      refine w_istore_n (ls' := [(2, 82), (3, x1), (0, 0)]) gz_41_27 gm_41 rfl rfl rfl ?_
      exact J28_0 7 (0) (by omega) (by omega) (ev16.symm.trans (by omega)) (ev13.symm.trans (by omega)) (ev17.symm.trans (by omega)) (cf.trans (by omega)) (by first | assumption | omega | (subst_vars; omega)) (by omega)
    ·
      refine w_iconst gz_41_24 (by decide) ?_
      have c20 := cf
      exact w_bret gz_41_25 gm_41 (by omega) (by omega) (k0 (by omega))
theorem c_Reader_wallNumber_f0 {l : Launch} {rho : Nat → Int32} {d : Nat} {h : my_H} {Q : my_H → my_V → Prop} (cf : h 82 9 = 0) (k0 : ∀ (h' : my_H), my_fr [(5, 9)] h h' → 1 ≤ h' 82 9 → h' 82 9 ≤ 16004 → ((-1) ≠ -1 → 1 ≤ h' 2 (-1)) → Q h' (0, (-1))) (k1 : ∀ (h' : my_H) (y : Int), my_fr [(5, 9)] h h' → 0 ≤ y → y ≤ 2 → h' 82 6 = 2 → 0 ≤ h' 82 8 → h' 82 8 ≤ 2 → h' 82 9 = 0 → (y ≠ -1 → 1 ≤ h' 2 y) → Q h' (0, y)) : wp l rho (d + 2) 43 0 [(2, 82), (9, 0)] [] h Q := by
  refine w_aload_n gz_43_0 rfl ?_
  refine w_iconst gz_43_1 (by decide) ?_
  refine w_inv (k := 0) (as := [(0, 3)]) (r := []) (x := 82) (ls0 := [(2, 82), (0, 3)]) gz_43_2 gm_44 rfl is_82 rd_5 rfl rfl rfl rfl rfl ?_
  refine w_aload_n gz_44_0 rfl ?_
  refine v_getI (j := 6) gz_44_1 rfl is_82 rd_5 rfl (fun v1 ev1 pv1 qv1 => ?_)
  refine w_iconst gz_44_4 (by decide) ?_
  refine w_iceq (t := 15) gz_44_5 rfl (fun u2 => ?_) (fun u2 => ?_)
  ·
    refine w_aload_n gz_44_15 rfl ?_
    refine v_getI (j := 8) gz_44_16 rfl is_82 rd_5 rfl (fun v3 ev3 pv3 qv3 => ?_)
    refine w_iload_n gz_44_19 rfl ?_
    refine w_iclt (t := 30) gz_44_20 rfl (fun u4 => ?_) (fun u4 => ?_)
    ·
      refine w_aload_n gz_44_30 rfl ?_
      refine v_getI (j := 9) gz_44_31 rfl is_82 rd_5 rfl (fun v5 ev5 pv5 qv5 => ?_)
      have zv5 := ev5.trans cf
      refine w_ifne (t := 44) gz_44_34 rfl (fun u6 => by exfalso; omega) (fun u6 => ?_)
      refine w_aload_n gz_44_37 rfl ?_
      refine v_getI (j := 8) gz_44_38 rfl is_82 rd_5 rfl (fun v7 ev7 pv7 qv7 => ?_)
      have zv7 := ev7.trans ev3.symm
      refine w_goto (t := 45) gz_44_41 rfl ?_
      refine w_iret gz_44_45 gm_44 ?_
      show wp l rho (d + 2) 43 5 [(2, 82), (9, 0)] [(0, v7)] h Q
      refine w_istore_n (ls' := [(2, 82), (0, v7)]) gz_43_5 gm_43 rfl rfl rfl ?_
      refine w_iload_n gz_43_6 rfl ?_
      refine w_iconst gz_43_7 (by decide) ?_
      refine w_iceq (t := 29) gz_43_8 rfl (fun u8 => by exfalso; omega) (fun u8 => ?_)
      refine w_aload_n gz_43_11 rfl ?_
      refine w_getX (v := 1) gz_43_12 is_82 rd_5 rfl (by decide) rfl ?_
      refine w_iload_n gz_43_15 rfl ?_
      refine w_inv (k := 0) (as := [(0, v7)]) (r := []) (x := 1) (ls0 := [(2, 1), (0, v7)]) gz_43_16 gm_13 rfl is_1 rd_3 rfl rfl rfl rfl rfl ?_
      refine w_iload_n gz_13_0 rfl ?_
      refine w_iflt (t := 22) gz_13_1 rfl (fun u10 => by exfalso; omega) (fun u10 => ?_)
      refine w_iload_n gz_13_4 rfl ?_
      refine w_iconst gz_13_5 (by decide) ?_
      refine w_icge (t := 22) gz_13_6 rfl (fun u11 => by exfalso; omega) (fun u11 => ?_)
      refine w_aload_n gz_13_9 rfl ?_
      refine w_getX (v := 2) gz_13_10 is_1 rd_3 rfl (by decide) rfl ?_
      refine w_iload_n gz_13_13 rfl ?_
      refine w_iald gz_13_14 is_2 rd_25 (by omega) (by omega) (fun v13 ev13 pv13 qv13 => ?_)
      refine w_ifle (t := 22) gz_13_15 rfl (fun u14 => ?_) (fun u14 => ?_)
      ·
        refine w_iconst gz_13_22 (by decide) ?_
        refine w_bret gz_13_23 gm_13 (by omega) (by omega) ?_
        show wp l rho (d + 2) 43 19 [(2, 82), (0, v7)] [(0, 0)] h Q
        refine w_ifne (t := 29) gz_43_19 rfl (fun u15 => by exfalso; omega) (fun u15 => ?_)
        refine w_aload_n gz_43_22 rfl ?_
        refine w_iconst gz_43_23 (by decide) ?_
        refine w_inv (k := 0) (as := [(0, 2)]) (r := []) (x := 82) (ls0 := [(2, 82), (0, 2)]) gz_43_24 gm_42 rfl is_82 rd_5 rfl rfl rfl rfl rfl ?_
        refine w_aload_n gz_42_0 rfl ?_
        refine v_getI (j := 9) gz_42_1 rfl is_82 rd_5 rfl (fun v16 ev16 pv16 qv16 => ?_)
        have zv16 := ev16.trans ev5.symm
        refine w_ifne (t := 20) gz_42_4 rfl (fun u17 => by exfalso; omega) (fun u17 => ?_)
        refine w_aload_n gz_42_7 rfl ?_
        refine w_iload_n gz_42_8 rfl ?_
        refine w_bipush gz_42_9 (by decide) ?_
        refine w_aload_n gz_42_11 rfl ?_
        refine v_getI (j := 7) gz_42_12 rfl is_82 rd_5 rfl (fun v18 ev18 pv18 qv18 => ?_)
        refine w_imul gz_42_15 ⟨by omega, by omega⟩ ?_
        refine w_iadd gz_42_16 ⟨by omega, by omega⟩ ?_
        refine v_putI (j := 9) gz_42_17 rfl is_82 rd_5 rfl (by omega) (by omega) rfl (fun h19 fh19 => ?_)
        have gh19 : my_fr [(5, 9)] h h19 := my_fr.up my_fr.rf is_82 fh19 rfl
        refine w_vret gz_42_20 gm_42 ?_
        show wp l rho (d + 2) 43 27 [(2, 82), (0, v7)] [] h19 Q
        refine w_iconst gz_43_27 (by decide) ?_
        have c20 := (my_up_self fh19)
        exact w_iret gz_43_28 gm_43 (k0 h19 (gh19) (by omega) (by omega) (by first | omega | grind))
      ·
        refine w_iconst gz_13_18 (by decide) ?_
        refine w_goto (t := 23) gz_13_19 rfl ?_
        refine w_bret gz_13_23 gm_13 (by omega) (by omega) ?_
        show wp l rho (d + 2) 43 19 [(2, 82), (0, v7)] [(0, 1)] h Q
        refine w_ifne (t := 29) gz_43_19 rfl (fun u21 => ?_) (fun u21 => by exfalso; omega)
        refine w_iload_n gz_43_29 rfl ?_
        have c22 := ev1.symm
        have c23 := ev7.symm
        have c24 := ev5.symm
        exact w_iret gz_43_30 gm_43 (k1 h (v7) (my_fr.rf) (by omega) (by omega) (by omega) (by omega) (by omega) (by omega) (by first | omega | grind))
    ·
      refine w_aload_n gz_44_23 rfl ?_
      refine w_iconst gz_44_24 (by decide) ?_
      refine w_inv (k := 0) (as := [(0, 4)]) (r := []) (x := 82) (ls0 := [(2, 82), (0, 4)]) gz_44_25 gm_42 rfl is_82 rd_5 rfl rfl rfl rfl rfl ?_
      refine w_aload_n gz_42_0 rfl ?_
      refine v_getI (j := 9) gz_42_1 rfl is_82 rd_5 rfl (fun v25 ev25 pv25 qv25 => ?_)
      have zv25 := ev25.trans cf
      refine w_ifne (t := 20) gz_42_4 rfl (fun u26 => by exfalso; omega) (fun u26 => ?_)
      refine w_aload_n gz_42_7 rfl ?_
      refine w_iload_n gz_42_8 rfl ?_
      refine w_bipush gz_42_9 (by decide) ?_
      refine w_aload_n gz_42_11 rfl ?_
      refine v_getI (j := 7) gz_42_12 rfl is_82 rd_5 rfl (fun v27 ev27 pv27 qv27 => ?_)
      refine w_imul gz_42_15 ⟨by omega, by omega⟩ ?_
      refine w_iadd gz_42_16 ⟨by omega, by omega⟩ ?_
      refine v_putI (j := 9) gz_42_17 rfl is_82 rd_5 rfl (by omega) (by omega) rfl (fun h28 fh28 => ?_)
      have gh28 : my_fr [(5, 9)] h h28 := my_fr.up my_fr.rf is_82 fh28 rfl
      refine w_vret gz_42_20 gm_42 ?_
      show wp l rho (d + 1) 44 28 [(2, 82), (0, 3)] [] h28 _
      refine w_iconst gz_44_28 (by decide) ?_
      refine w_iret gz_44_29 gm_44 ?_
      show wp l rho (d + 2) 43 5 [(2, 82), (9, 0)] [(0, (-1))] h28 Q
      refine w_istore_n (ls' := [(2, 82), (0, (-1))]) gz_43_5 gm_43 rfl rfl rfl ?_
      refine w_iload_n gz_43_6 rfl ?_
      refine w_iconst gz_43_7 (by decide) ?_
      refine w_iceq (t := 29) gz_43_8 rfl (fun u29 => ?_) (fun u29 => by exfalso; omega)
      refine w_iload_n gz_43_29 rfl ?_
      have c30 := (my_up_self fh28)
      exact w_iret gz_43_30 gm_43 (k0 h28 (gh28) (by omega) (by omega) (by first | omega | grind))
  ·
    refine w_aload_n gz_44_8 rfl ?_
    refine w_iconst gz_44_9 (by decide) ?_
    refine w_inv (k := 0) (as := [(0, 1)]) (r := []) (x := 82) (ls0 := [(2, 82), (0, 1)]) gz_44_10 gm_42 rfl is_82 rd_5 rfl rfl rfl rfl rfl ?_
    refine w_aload_n gz_42_0 rfl ?_
    refine v_getI (j := 9) gz_42_1 rfl is_82 rd_5 rfl (fun v31 ev31 pv31 qv31 => ?_)
    have zv31 := ev31.trans cf
    refine w_ifne (t := 20) gz_42_4 rfl (fun u32 => by exfalso; omega) (fun u32 => ?_)
    refine w_aload_n gz_42_7 rfl ?_
    refine w_iload_n gz_42_8 rfl ?_
    refine w_bipush gz_42_9 (by decide) ?_
    refine w_aload_n gz_42_11 rfl ?_
    refine v_getI (j := 7) gz_42_12 rfl is_82 rd_5 rfl (fun v33 ev33 pv33 qv33 => ?_)
    refine w_imul gz_42_15 ⟨by omega, by omega⟩ ?_
    refine w_iadd gz_42_16 ⟨by omega, by omega⟩ ?_
    refine v_putI (j := 9) gz_42_17 rfl is_82 rd_5 rfl (by omega) (by omega) rfl (fun h34 fh34 => ?_)
    have gh34 : my_fr [(5, 9)] h h34 := my_fr.up my_fr.rf is_82 fh34 rfl
    refine w_vret gz_42_20 gm_42 ?_
    show wp l rho (d + 1) 44 13 [(2, 82), (0, 3)] [] h34 _
    refine w_iconst gz_44_13 (by decide) ?_
    refine w_iret gz_44_14 gm_44 ?_
    show wp l rho (d + 2) 43 5 [(2, 82), (9, 0)] [(0, (-1))] h34 Q
    refine w_istore_n (ls' := [(2, 82), (0, (-1))]) gz_43_5 gm_43 rfl rfl rfl ?_
    refine w_iload_n gz_43_6 rfl ?_
    refine w_iconst gz_43_7 (by decide) ?_
    refine w_iceq (t := 29) gz_43_8 rfl (fun u35 => ?_) (fun u35 => by exfalso; omega)
    refine w_iload_n gz_43_29 rfl ?_
    have c36 := (my_up_self fh34)
    exact w_iret gz_43_30 gm_43 (k0 h34 (gh34) (by omega) (by omega) (by first | omega | grind))
end MYNModel_findChain_f0
