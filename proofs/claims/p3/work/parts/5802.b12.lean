/-! contracts, printed by wip/gen/gy.py -/
section MYNModel_readCut_f0
theorem c_Model_readCut_f0 {l : Launch} {rho : Nat → Int32} {d : Nat} {h : my_H} {Q : my_H → my_V → Prop} {x1 : Int} {wv : Int} (a1 : 36 ≤ x1) (b1 : x1 ≤ 41) (cf : h 151 8 = 0) (hwv : wv ≤ 5) (hwv0 : 0 ≤ wv) (n_Tok : Tok h) (n_Mr : Mr h wv) (hp : x1 = 36 + h 167 6) (k0 : ∀ (h' : my_H), my_fr [(10, 7), (10, 8), (67, -1), (68, -1), (69, -1)] h h' → 1 ≤ h' 151 8 → h' 151 8 ≤ 16005 → h 151 7 ≤ h' 151 7 → Tok h' → Mr h' wv → Q h' (9, 0)) (k1 : ∀ (h' : my_H), my_fr [(10, 7), (10, 8), (67, -1), (68, -1), (69, -1)] h h' → 1 ≤ h' 151 7 → h' 151 7 ≤ 1001 → h' 151 8 = 0 → PaneOk h' x1 → h 151 7 ≤ h' 151 7 → Tok h' → Mr h' wv → Q h' (9, 0)) : wp l rho (d + 2) 186 0 [(2, 151), (0, x1), (9, 0), (9, 0)] [] h Q := by
  refine v_know (x := 151) (j := 7) (b := 7) rfl is_151 rd_10 rfl (fun k151_7 ek151_7 pk151_7 qk151_7 => ?_)
  have J20_0 : ∀ (n : Nat) (p20_0 p20_1 p20_2 p20_3 : Int) (h20_0 : my_H), my_fr [(10, 7), (10, 8), (67, -1), (68, -1), (69, -1)] h h20_0 → (-1) ≤ p20_0 → p20_0 ≤ 2 → 0 ≤ p20_1 → p20_1 ≤ 3 → 0 ≤ p20_2 → p20_2 ≤ 8 → 0 ≤ p20_3 → p20_3 ≤ 16004 → p20_0 ≤ (p20_1 - 1) → h20_0 151 27 = p20_2 → h20_0 151 8 = p20_3 → Tok h20_0 → Mr h20_0 wv → h20_0 167 6 = h 167 6 → (0 ≤ p20_0 → h20_0 153 (h20_0 151 7) = 1) → h 151 7 ≤ h20_0 151 7 → 4 - p20_1 ≤ (n : Int) → wp l rho (d + 2) 186 20 [(2, 151), (0, x1), (0, p20_0), (0, p20_1)] [] h20_0 Q := by
    intro n
    induction n with
    | zero => intro p20_0 p20_1 p20_2 p20_3 h20_0 gh_20_0 q0_20_0 q1_20_0 q2_20_0 q3_20_0 q4_20_0 q5_20_0 q6_20_0 q7_20_0 q8_20_0 c151_27_20_0 c151_8_20_0 n_Tok_20_0 n_Mr_20_0 n_P6_20_0 kw_20_0 am_20_0 hm_20_0; exfalso; omega
    | succ n ih_20_0 =>
      intro p20_0 p20_1 p20_2 p20_3 h20_0 gh_20_0 q0_20_0 q1_20_0 q2_20_0 q3_20_0 q4_20_0 q5_20_0 q6_20_0 q7_20_0 q8_20_0 c151_27_20_0 c151_8_20_0 n_Tok_20_0 n_Mr_20_0 n_P6_20_0 kw_20_0 am_20_0 hm_20_0
      refine w_iload_n gz_186_20 rfl ?_
      refine w_iconst gz_186_21 (by decide) ?_
      refine w_icge (t := 47) gz_186_22 rfl (fun u1 => ?_) (fun u1 => ?_)
      ·
        refine w_iload_n gz_186_47 rfl ?_
        refine w_ifge (t := 57) gz_186_48 rfl (fun u2 => ?_) (fun u2 => ?_)
        ·
          refine w_aload_n gz_186_57 rfl ?_
          refine w_dup gz_186_58 rfl ?_
          refine v_getI (j := 7) gz_186_59 rfl is_151 rd_10 rfl (fun v3 ev3 pv3 qv3 => ?_)
          refine w_iconst gz_186_62 (by decide) ?_
          refine w_iadd gz_186_63 ⟨by omega, by omega⟩ ?_
          have hi4 : 0 ≤ (v3 + 1) := by have q := Tok_at n_Tok_20_0; omega
          have hi5 : (v3 + 1) ≤ 1001 := by have q := Tok_at n_Tok_20_0; omega
          refine v_putI (j := 7) gz_186_64 rfl is_151 rd_10 rfl (by omega) (by omega) rfl (fun h6 fh6 => ?_)
          have gh6 : my_fr [(10, 7), (10, 8), (67, -1), (68, -1), (69, -1)] h h6 := my_fr.up gh_20_0 is_151 fh6 rfl
          have Mr_h6 : Mr h6 wv := Mr_ag (my_ag.up fh6 is_151 rfl) n_Mr_20_0
          have P6_h6 : h6 167 6 = h 167 6 := P6_ag (my_ag.up fh6 is_151 rfl) n_P6_20_0
          have Tok_h6t7 : Tok h6 := by first | exact Tok_inc n_Tok_20_0 (by subst_vars; omega) (by omega) fh6 | exact Tok_set n_Tok_20_0 (by omega) fh6
          have k7 := my_up_self fh6
          refine w_aload_n gz_186_67 rfl ?_
          refine w_getX (v := 168) gz_186_68 is_151 rd_10 rfl (by decide) rfl ?_
          refine w_iload_n gz_186_71 rfl ?_
          refine w_iload_n gz_186_72 rfl ?_
          refine w_iast gz_186_73 is_168 rd_67 (by omega) (by omega) (by omega) (by omega) (fun h9 fh9 => ?_)
          have gh9 : my_fr [(10, 7), (10, 8), (67, -1), (68, -1), (69, -1)] h h9 := my_fr.up gh6 is_168 fh9 rfl
          have Mr_h9 : Mr h9 wv := Mr_u (a := 168) hwv (by decide) (by omega) fh9 Mr_h6
          have P6_h9 : h9 167 6 = h 167 6 := P6_ag (my_ag.up fh9 is_168 rfl) P6_h6
          have Tok_h9 : Tok h9 := Tok_ag (my_ag.up fh9 is_168 rfl) Tok_h6t7
          have k168 : h9 168 x1 = p20_0 := my_up_self fh9
          have ce10 : h9 151 7 = (v3 + 1) := ((my_up_role fh9 is_151 is_168 rfl).trans (my_up_self fh6))
          refine w_aload_n gz_186_74 rfl ?_
          refine w_getX (v := 170) gz_186_75 is_151 rd_10 rfl (by decide) rfl ?_
          refine w_iload_n gz_186_78 rfl ?_
          refine w_aload_n gz_186_79 rfl ?_
          refine w_sipush gz_186_80 (by decide) ?_
          refine w_inv (k := 0) (as := [(0, 199)]) (r := [(0, x1), (2, 170)]) (x := 151) (ls0 := [(2, 151), (0, 199)]) gz_186_83 gm_187 rfl is_151 rd_10 rfl rfl rfl rfl rfl (c_Model_takeNumber_fq (d := d)  Tok_h9 (fun h12 frh12 w13 w14 xp15 Tok_h12t16 => ?_) (fun h17 v18 frh17 w19 w20 w21 w22 w23 xp24 xp25 xp26 Tok_h17t27 => ?_))
          ·
            have gh12 : my_fr [(10, 7), (10, 8), (67, -1), (68, -1), (69, -1)] h h12 := my_fr.tr gh9 (frh12.mo rfl)
            have Mr_h12 : Mr h12 wv := Mr_ag (my_ag.fr frh12 rfl) Mr_h9
            have P6_h12 : h12 167 6 = h 167 6 := P6_ag (my_ag.fr frh12 rfl) P6_h9
            show wp l rho (d + 2) 186 86 [(2, 151), (0, x1), (0, p20_0), (0, p20_1)] [(0, 0), (0, x1), (2, 170)] h12 Q
            have hi28 : 0 ≤ 0 := by omega
            have hi29 : 0 ≤ 199 := by omega
            refine w_iast gz_186_86 is_170 rd_69 (by omega) (by omega) (by omega) (by omega) (fun h30 fh30 => ?_)
            have gh30 : my_fr [(10, 7), (10, 8), (67, -1), (68, -1), (69, -1)] h h30 := my_fr.up gh12 is_170 fh30 rfl
            have Mr_h30 : Mr h30 wv := Mr_u (a := 170) hwv (by decide) (by omega) fh30 Mr_h12
            have P6_h30 : h30 167 6 = h 167 6 := P6_ag (my_ag.up fh30 is_170 rfl) P6_h12
            have Tok_h30 : Tok h30 := Tok_ag (my_ag.up fh30 is_170 rfl) Tok_h12t16
            have ce31 : h30 151 7 = h12 151 7 := ((my_up_role fh30 is_151 is_170 rfl).trans (rfl : h12 151 7 = h12 151 7))
            have a168 : ∀ j : Int, h30 168 j = h9 168 j := fun j => ((my_up_role fh30 is_168 is_170 rfl).trans ((my_fr.at frh12 is_168 rfl).trans (rfl : h9 168 j = h9 168 j)))
            have c32 := ((my_up_role fh30 is_151 is_170 rfl).trans (rfl : h12 151 8 = h12 151 8))
            exact w_vret gz_186_87 gm_186 (k0 h30 (gh30) (by omega) (by omega) (by first | omega | (refine ⟨fun q => ?_, fun q => ?_⟩ <;> (rw [a168, k168] at q; omega))) Tok_h30 Mr_h30)
          ·
            have gh17 : my_fr [(10, 7), (10, 8), (67, -1), (68, -1), (69, -1)] h h17 := my_fr.tr gh9 (frh17.mo rfl)
            have Mr_h17 : Mr h17 wv := Mr_ag (my_ag.fr frh17 rfl) Mr_h9
            have P6_h17 : h17 167 6 = h 167 6 := P6_ag (my_ag.fr frh17 rfl) P6_h9
            show wp l rho (d + 2) 186 86 [(2, 151), (0, x1), (0, p20_0), (0, p20_1)] [(0, v18), (0, x1), (2, 170)] h17 Q
            have hi33 : 0 ≤ v18 := by omega
            have hi34 : v18 ≤ 199 := by omega
            refine w_iast gz_186_86 is_170 rd_69 (by omega) (by omega) (by omega) (by omega) (fun h35 fh35 => ?_)
            have gh35 : my_fr [(10, 7), (10, 8), (67, -1), (68, -1), (69, -1)] h h35 := my_fr.up gh17 is_170 fh35 rfl
            have Mr_h35 : Mr h35 wv := Mr_u (a := 170) hwv (by decide) (by omega) fh35 Mr_h17
            have P6_h35 : h35 167 6 = h 167 6 := P6_ag (my_ag.up fh35 is_170 rfl) P6_h17
            have Tok_h35 : Tok h35 := Tok_ag (my_ag.up fh35 is_170 rfl) Tok_h17t27
            have ce36 : h35 151 7 = (h17 151 7) := ((my_up_role fh35 is_151 is_170 rfl).trans (rfl : h17 151 7 = h17 151 7))
            have a168 : ∀ j : Int, h35 168 j = h9 168 j := fun j => ((my_up_role fh35 is_168 is_170 rfl).trans ((my_fr.at frh17 is_168 rfl).trans (rfl : h9 168 j = h9 168 j)))
            have c37 := ((my_up_role fh35 is_151 is_170 rfl).trans (rfl : h17 151 7 = h17 151 7))
            have c38 := ((my_up_role fh35 is_151 is_170 rfl).trans w23)
            exact w_vret gz_186_87 gm_186 (k1 h35 (gh35) (by omega) (by omega) (by omega) (by first | omega | (refine ⟨fun q => ?_, fun q => ?_⟩ <;> (rw [a168, k168] at q; omega))) (by first | omega | (refine ⟨fun q => ?_, fun q => ?_⟩ <;> (rw [a168, k168] at q; omega))) Tok_h35 Mr_h35)
        ·
          refine w_aload_n gz_186_51 rfl ?_
          refine w_iconst gz_186_52 (by decide) ?_
          refine w_inv (k := 0) (as := [(0, 1)]) (r := []) (x := 151) (ls0 := [(2, 151), (0, 1)]) gz_186_53 gm_178 rfl is_151 rd_10 rfl rfl rfl rfl rfl ?_
          refine w_aload_n gz_178_0 rfl ?_
          refine v_getI (j := 8) gz_178_1 rfl is_151 rd_10 rfl (fun v39 ev39 pv39 qv39 => ?_)
          have zv39 := ev39.trans c151_8_20_0
          refine w_ifne (t := 25) gz_178_4 rfl (fun u40 => ?_) (fun u40 => ?_)
          ·
            refine w_vret gz_178_25 gm_178 ?_
            show wp l rho (d + 2) 186 56 [(2, 151), (0, x1), (0, p20_0), (0, p20_1)] [] h20_0 Q
            have a168 : ∀ j : Int, h20_0 168 j = h20_0 168 j := fun j => rfl
            have c41 := ev39.symm
            exact w_vret gz_186_56 gm_186 (k0 h20_0 (gh_20_0) (by omega) (by omega) (by first | omega | (refine ⟨fun q => ?_, fun q => ?_⟩ <;> (rw [a168, k168] at q; omega))) n_Tok_20_0 n_Mr_20_0)
          ·
            refine w_aload_n gz_178_7 rfl ?_
            refine w_iload_n gz_178_8 rfl ?_
            refine w_bipush gz_178_9 (by decide) ?_
            refine w_aload_n gz_178_11 rfl ?_
            refine w_getX (v := 154) gz_178_12 is_151 rd_10 rfl (by decide) rfl ?_
            refine w_aload_n gz_178_15 rfl ?_
            refine v_getI (j := 7) gz_178_16 rfl is_151 rd_10 rfl (fun v43 ev43 pv43 qv43 => ?_)
            refine w_iald gz_178_19 is_154 rd_53 (by omega) (by omega) (fun v44 ev44 pv44 qv44 => ?_)
            refine w_imul gz_178_20 ⟨by omega, by omega⟩ ?_
            refine w_iadd gz_178_21 ⟨by omega, by omega⟩ ?_
            refine v_putI (j := 8) gz_178_22 rfl is_151 rd_10 rfl (by omega) (by omega) rfl (fun h45 fh45 => ?_)
            have gh45 : my_fr [(10, 7), (10, 8), (67, -1), (68, -1), (69, -1)] h h45 := my_fr.up gh_20_0 is_151 fh45 rfl
            have Tok_h45 : Tok h45 := Tok_ag (my_ag.up fh45 is_151 rfl) n_Tok_20_0
            have Mr_h45 : Mr h45 wv := Mr_ag (my_ag.up fh45 is_151 rfl) n_Mr_20_0
            have P6_h45 : h45 167 6 = h 167 6 := P6_ag (my_ag.up fh45 is_151 rfl) n_P6_20_0
            refine w_vret gz_178_25 gm_178 ?_
            show wp l rho (d + 2) 186 56 [(2, 151), (0, x1), (0, p20_0), (0, p20_1)] [] h45 Q
            have ce46 : h45 151 7 = v43 := ((my_up_fld fh45 (by decide)).trans ev43.symm)
            have a168 : ∀ j : Int, h45 168 j = h45 168 j := fun j => rfl
            have c47 := (my_up_self fh45)
            exact w_vret gz_186_56 gm_186 (k0 h45 (gh45) (by omega) (by omega) (by first | omega | (refine ⟨fun q => ?_, fun q => ?_⟩ <;> (rw [a168, k168] at q; omega))) Tok_h45 Mr_h45)
      ·
        refine w_aload_n gz_186_25 rfl ?_
        refine w_iconst gz_186_26 (by decide) ?_
        refine w_iload_n gz_186_27 rfl ?_
        refine w_iadd gz_186_28 ⟨by omega, by omega⟩ ?_
        refine w_inv (k := 0) (as := [(0, (4 + p20_1))]) (r := []) (x := 151) (ls0 := [(2, 151), (0, (4 + p20_1))]) gz_186_29 gm_177 rfl is_151 rd_10 rfl rfl rfl rfl rfl ?_
        refine w_aload_n gz_177_0 rfl ?_
        refine v_getI (j := 8) gz_177_1 rfl is_151 rd_10 rfl (fun v48 ev48 pv48 qv48 => ?_)
        have zv48 := ev48.trans c151_8_20_0
        refine w_ifne (t := 43) gz_177_4 rfl (fun u49 => ?_) (fun u49 => ?_)
        ·
          refine w_iconst gz_177_43 (by decide) ?_
          refine w_bret gz_177_44 gm_177 (by omega) (by omega) ?_
          show wp l rho (d + 2) 186 32 [(2, 151), (0, x1), (0, p20_0), (0, p20_1)] [(0, 0)] h20_0 Q
          refine w_ifeq (t := 39) gz_186_32 rfl (fun u50 => ?_) (fun u50 => by exfalso; omega)
          refine w_iload_n gz_186_39 rfl ?_
          refine w_istore_n (ls' := [(2, 151), (0, x1), (0, p20_0), (0, p20_1)]) gz_186_40 gm_186 rfl rfl rfl ?_
          refine w_iinc (ls' := [(2, 151), (0, x1), (0, p20_0), (0, (p20_1 + 1))]) gz_186_41 rfl gm_186 rfl rfl rfl ⟨by omega, by omega⟩ ?_
          refine w_goto (t := 20) gz_186_44 rfl ?_
          have a153 : ∀ j : Int, h20_0 153 j = h20_0 153 j := fun _ => rfl
          exact ih_20_0 (p20_0) ((p20_1 + 1)) (p20_2) (v48) h20_0 (gh_20_0) (by omega) (by omega) (by omega) (by omega) (by omega) (by omega) (by omega) (by omega) (by omega) (c151_27_20_0.trans (by omega)) (ev48.symm.trans (by omega)) n_Tok_20_0 n_Mr_20_0 n_P6_20_0 (by first | omega | (intro q; rw [a153]; subst_vars; omega) | (subst_vars; omega)) (by omega) (by omega)
        ·
          refine w_aload_n gz_177_7 rfl ?_
          refine w_getX (v := 153) gz_177_8 is_151 rd_10 rfl (by decide) rfl ?_
          refine w_aload_n gz_177_11 rfl ?_
          refine v_getI (j := 7) gz_177_12 rfl is_151 rd_10 rfl (fun v52 ev52 pv52 qv52 => ?_)
          refine w_iald gz_177_15 is_153 rd_52 (by omega) (by omega) (fun v53 ev53 pv53 qv53 => ?_)
          refine w_iconst gz_177_16 (by decide) ?_
          refine w_icne (t := 43) gz_177_17 rfl (fun u54 => ?_) (fun u54 => ?_)
          ·
            refine w_iconst gz_177_43 (by decide) ?_
            refine w_bret gz_177_44 gm_177 (by omega) (by omega) ?_
            show wp l rho (d + 2) 186 32 [(2, 151), (0, x1), (0, p20_0), (0, p20_1)] [(0, 0)] h20_0 Q
            refine w_ifeq (t := 39) gz_186_32 rfl (fun u55 => ?_) (fun u55 => by exfalso; omega)
            refine w_iload_n gz_186_39 rfl ?_
            refine w_istore_n (ls' := [(2, 151), (0, x1), (0, p20_0), (0, p20_1)]) gz_186_40 gm_186 rfl rfl rfl ?_
            refine w_iinc (ls' := [(2, 151), (0, x1), (0, p20_0), (0, (p20_1 + 1))]) gz_186_41 rfl gm_186 rfl rfl rfl ⟨by omega, by omega⟩ ?_
            refine w_goto (t := 20) gz_186_44 rfl ?_
            have ce56 : h20_0 151 7 = v52 := ev52.symm
            have a153 : ∀ j : Int, h20_0 153 j = h20_0 153 j := fun _ => rfl
            exact ih_20_0 (p20_0) ((p20_1 + 1)) (p20_2) (v48) h20_0 (gh_20_0) (by omega) (by omega) (by omega) (by omega) (by omega) (by omega) (by omega) (by omega) (by omega) (c151_27_20_0.trans (by omega)) (ev48.symm.trans (by omega)) n_Tok_20_0 n_Mr_20_0 n_P6_20_0 (by first | omega | (intro q; rw [a153]; subst_vars; omega) | (subst_vars; omega)) (by omega) (by omega)
          ·
            refine w_aload_n gz_177_20 rfl ?_
            refine w_getX (v := 155) gz_177_21 is_151 rd_10 rfl (by decide) rfl ?_
            refine w_aload_n gz_177_24 rfl ?_
            refine v_getI (j := 7) gz_177_25 rfl is_151 rd_10 rfl (fun v58 ev58 pv58 qv58 => ?_)
            have zv58 := ev58.trans ev52.symm
            refine w_lald gz_177_28 is_155 rd_54 (by omega) (by omega) (fun v59 ev59 pv59 => ?_)
            refine w_aload_n gz_177_29 rfl ?_
            refine w_getX (v := 156) gz_177_30 is_151 rd_10 rfl (by decide) rfl ?_
            refine w_iload_n gz_177_33 rfl ?_
            refine w_lald gz_177_34 is_156 rd_55 (by omega) (by omega) (fun v61 ev61 pv61 => ?_)
            refine w_lcmpE gz_177_35 (fun v62 pv62 qv62 xv62 => ?_)
            refine w_ifne (t := 43) gz_177_36 rfl (fun u63 => ?_) (fun u63 => ?_)
            ·
              refine w_iconst gz_177_43 (by decide) ?_
              refine w_bret gz_177_44 gm_177 (by omega) (by omega) ?_
              show wp l rho (d + 2) 186 32 [(2, 151), (0, x1), (0, p20_0), (0, p20_1)] [(0, 0)] h20_0 Q
              refine w_ifeq (t := 39) gz_186_32 rfl (fun u64 => ?_) (fun u64 => by exfalso; omega)
              refine w_iload_n gz_186_39 rfl ?_
              refine w_istore_n (ls' := [(2, 151), (0, x1), (0, p20_0), (0, p20_1)]) gz_186_40 gm_186 rfl rfl rfl ?_
              refine w_iinc (ls' := [(2, 151), (0, x1), (0, p20_0), (0, (p20_1 + 1))]) gz_186_41 rfl gm_186 rfl rfl rfl ⟨by omega, by omega⟩ ?_
              refine w_goto (t := 20) gz_186_44 rfl ?_
              have ce65 : h20_0 151 7 = v58 := ev58.symm
              have a153 : ∀ j : Int, h20_0 153 j = h20_0 153 j := fun _ => rfl
              exact ih_20_0 (p20_0) ((p20_1 + 1)) (p20_2) (v48) h20_0 (gh_20_0) (by omega) (by omega) (by omega) (by omega) (by omega) (by omega) (by omega) (by omega) (by omega) (c151_27_20_0.trans (by omega)) (ev48.symm.trans (by omega)) n_Tok_20_0 n_Mr_20_0 n_P6_20_0 (by first | omega | (intro q; rw [a153]; subst_vars; omega) | (subst_vars; omega)) (by omega) (by omega)
            ·
              refine w_iconst gz_177_39 (by decide) ?_
              refine w_goto (t := 44) gz_177_40 rfl ?_
              refine w_bret gz_177_44 gm_177 (by omega) (by omega) ?_
              show wp l rho (d + 2) 186 32 [(2, 151), (0, x1), (0, p20_0), (0, p20_1)] [(0, 1)] h20_0 Q
              refine w_ifeq (t := 39) gz_186_32 rfl (fun u66 => by exfalso; omega) (fun u66 => ?_)
              refine w_iload_n gz_186_35 rfl ?_
              refine w_goto (t := 40) gz_186_36 rfl ?_
              refine w_istore_n (ls' := [(2, 151), (0, x1), (0, p20_1), (0, p20_1)]) gz_186_40 gm_186 rfl rfl rfl ?_
              refine w_iinc (ls' := [(2, 151), (0, x1), (0, p20_1), (0, (p20_1 + 1))]) gz_186_41 rfl gm_186 rfl rfl rfl ⟨by omega, by omega⟩ ?_
              refine w_goto (t := 20) gz_186_44 rfl ?_
              have ce67 : h20_0 151 7 = v58 := ev58.symm
              have a153 : ∀ j : Int, h20_0 153 j = h20_0 153 j := fun _ => rfl
              exact ih_20_0 (p20_1) ((p20_1 + 1)) (p20_2) (v48) h20_0 (gh_20_0) (by omega) (by omega) (by omega) (by omega) (by omega) (by omega) (by omega) (by omega) (by omega) (c151_27_20_0.trans (by omega)) (ev48.symm.trans (by omega)) n_Tok_20_0 n_Mr_20_0 n_P6_20_0 (by first | omega | (intro q; rw [a153]; subst_vars; omega) | (subst_vars; omega)) (by omega) (by omega)
  refine w_aload_n gz_186_0 rfl ?_
  refine w_getX (v := 169) gz_186_1 is_151 rd_10 rfl (by decide) rfl ?_
  refine w_iload_n gz_186_4 rfl ?_
  refine w_aload_n gz_186_5 rfl ?_
  refine w_aload_n gz_186_6 rfl ?_
  refine v_getI (j := 27) gz_186_7 rfl is_151 rd_10 rfl (fun v69 ev69 pv69 qv69 => ?_)
  refine w_iconst gz_186_10 (by decide) ?_
  refine w_isub gz_186_11 ⟨by omega, by omega⟩ ?_
  refine w_inv (k := 0) (as := [(0, (v69 - 1))]) (r := [(0, x1), (2, 169)]) (x := 151) (ls0 := [(2, 151), (0, (v69 - 1))]) gz_186_12 gm_187 rfl is_151 rd_10 rfl rfl rfl rfl rfl (c_Model_takeNumber_f0 (d := d) (x1 := (v69 - 1)) (by omega) (by omega) (cf.trans (by omega)) n_Tok (fun h70 frh70 w71 w72 xp73 Tok_h70t74 => ?_) (fun h75 v76 frh75 w77 w78 w79 w80 w81 xp82 xp83 xp84 Tok_h75t85 => ?_))
  ·
    have gh70 : my_fr [(10, 7), (10, 8), (67, -1), (68, -1), (69, -1)] h h70 := my_fr.tr my_fr.rf (frh70.mo rfl)
    have Mr_h70 : Mr h70 wv := Mr_ag (my_ag.fr frh70 rfl) n_Mr
    have P6_h70 : h70 167 6 = h 167 6 := P6_ag (my_ag.fr frh70 rfl) (rfl)
    show wp l rho (d + 2) 186 15 [(2, 151), (0, x1), (9, 0), (9, 0)] [(0, 0), (0, x1), (2, 169)] h70 Q
    have hi86 : 0 ≤ 0 := by omega
    have hi87 : 0 ≤ 7 := by omega
    refine w_iast gz_186_15 is_169 rd_68 (by omega) (by omega) (by omega) (by omega) (fun h88 fh88 => ?_)
    have gh88 : my_fr [(10, 7), (10, 8), (67, -1), (68, -1), (69, -1)] h h88 := my_fr.up gh70 is_169 fh88 rfl
    have Mr_h88 : Mr h88 wv := Mr_ag (my_ag.up fh88 is_169 rfl) Mr_h70
    have P6_h88 : h88 167 6 = h 167 6 := P6_ag (my_ag.up fh88 is_169 rfl) P6_h70
    have Tok_h88 : Tok h88 := Tok_ag (my_ag.up fh88 is_169 rfl) Tok_h70t74
    refine w_iconst gz_186_16 (by decide) ?_
    refine w_istore_n (ls' := [(2, 151), (0, x1), (0, (-1)), (9, 0)]) gz_186_17 gm_186 rfl rfl rfl ?_
    refine w_iconst gz_186_18 (by decide) ?_
    refine w_istore_n (ls' := [(2, 151), (0, x1), (0, (-1)), (0, 0)]) gz_186_19 gm_186 rfl rfl rfl ?_
    have ce89 : h88 151 7 = h70 151 7 := ((my_up_role fh88 is_151 is_169 rfl).trans (rfl : h70 151 7 = h70 151 7))
    have a153 : ∀ j : Int, h88 153 j = h 153 j := fun j => ((my_up_role fh88 is_153 is_169 rfl).trans ((my_fr.at frh70 is_153 rfl).trans (rfl : h 153 j = h 153 j)))
    exact J20_0 4 ((-1)) (0) (v69) ((h70 151 8)) h88 (gh88) (by omega) (by omega) (by omega) (by omega) (by omega) (by omega) (by omega) (by omega) (by omega) (((my_up_role fh88 is_151 is_169 rfl).trans ((my_fr.at frh70 is_151 rfl).trans ev69.symm)).trans (by omega)) (((my_up_role fh88 is_151 is_169 rfl).trans (rfl : h70 151 8 = h70 151 8)).trans (by omega)) Tok_h88 Mr_h88 P6_h88 (by first | omega | (intro q; rw [a153]; subst_vars; omega) | (subst_vars; omega)) (by omega) (by omega)
  ·
    have gh75 : my_fr [(10, 7), (10, 8), (67, -1), (68, -1), (69, -1)] h h75 := my_fr.tr my_fr.rf (frh75.mo rfl)
    have Mr_h75 : Mr h75 wv := Mr_ag (my_ag.fr frh75 rfl) n_Mr
    have P6_h75 : h75 167 6 = h 167 6 := P6_ag (my_ag.fr frh75 rfl) (rfl)
    show wp l rho (d + 2) 186 15 [(2, 151), (0, x1), (9, 0), (9, 0)] [(0, v76), (0, x1), (2, 169)] h75 Q
    have hi90 : 0 ≤ v76 := by omega
    have hi91 : v76 ≤ 7 := by omega
    refine w_iast gz_186_15 is_169 rd_68 (by omega) (by omega) (by omega) (by omega) (fun h92 fh92 => ?_)
    have gh92 : my_fr [(10, 7), (10, 8), (67, -1), (68, -1), (69, -1)] h h92 := my_fr.up gh75 is_169 fh92 rfl
    have Mr_h92 : Mr h92 wv := Mr_ag (my_ag.up fh92 is_169 rfl) Mr_h75
    have P6_h92 : h92 167 6 = h 167 6 := P6_ag (my_ag.up fh92 is_169 rfl) P6_h75
    have Tok_h92 : Tok h92 := Tok_ag (my_ag.up fh92 is_169 rfl) Tok_h75t85
    refine w_iconst gz_186_16 (by decide) ?_
    refine w_istore_n (ls' := [(2, 151), (0, x1), (0, (-1)), (9, 0)]) gz_186_17 gm_186 rfl rfl rfl ?_
    refine w_iconst gz_186_18 (by decide) ?_
    refine w_istore_n (ls' := [(2, 151), (0, x1), (0, (-1)), (0, 0)]) gz_186_19 gm_186 rfl rfl rfl ?_
    have ce93 : h92 151 7 = (h75 151 7) := ((my_up_role fh92 is_151 is_169 rfl).trans (rfl : h75 151 7 = h75 151 7))
    have a153 : ∀ j : Int, h92 153 j = h 153 j := fun j => ((my_up_role fh92 is_153 is_169 rfl).trans ((my_fr.at frh75 is_153 rfl).trans (rfl : h 153 j = h 153 j)))
    exact J20_0 4 ((-1)) (0) (v69) (0) h92 (gh92) (by omega) (by omega) (by omega) (by omega) (by omega) (by omega) (by omega) (by omega) (by omega) (((my_up_role fh92 is_151 is_169 rfl).trans ((my_fr.at frh75 is_151 rfl).trans ev69.symm)).trans (by omega)) (((my_up_role fh92 is_151 is_169 rfl).trans w81).trans (by omega)) Tok_h92 Mr_h92 P6_h92 (by first | omega | (intro q; rw [a153]; subst_vars; omega) | (subst_vars; omega)) (by omega) (by omega)
theorem c_ThroughWindow_why {l : Launch} {rho : Nat → Int32} {d : Nat} {h : my_H} {Q : my_H → my_V → Prop} {x1 x2 x3 x4 x5 : Int} (n_Ln : Ln h) (k0 : ∀ (h' : my_H), my_fr [(2, 15), (2, 16), (8, 0), (8, 1), (30, -1), (31, -1), (41, -1), (42, -1), (43, -1), (44, -1)] h h' → Ln h' → Q h' (0, (-1))) (k1 : ∀ (h' : my_H), my_fr [(2, 15), (2, 16), (8, 0), (8, 1), (30, -1), (31, -1), (41, -1), (42, -1), (43, -1), (44, -1)] h h' → 0 ≤ x1 → x1 ≤ 5 → 0 ≤ x2 → x2 ≤ 2 → Ln h' → Q h' (0, 0)) (k2 : ∀ (h' : my_H), my_fr [(2, 15), (2, 16), (8, 0), (8, 1), (30, -1), (31, -1), (41, -1), (42, -1), (43, -1), (44, -1)] h h' → 0 ≤ x1 → x1 ≤ 5 → 0 ≤ x2 → x2 ≤ 2 → Ln h' → Q h' (0, 1)) (k3 : ∀ (h' : my_H) (y : Int), my_fr [(2, 15), (2, 16), (8, 0), (8, 1), (30, -1), (31, -1), (41, -1), (42, -1), (43, -1), (44, -1)] h h' → 0 ≤ x1 → x1 ≤ 5 → 0 ≤ x2 → x2 ≤ 2 → Ln h' → Q h' (0, y)) : wp l rho (d + 6) 109 0 [(2, 0), (0, x1), (0, x2), (0, x3), (0, x4), (0, x5)] [] h Q := by
  refine w_aload_n gz_109_0 rfl ?_
  refine w_getX (v := 94) gz_109_1 is_0 rd_9 rfl (by decide) rfl ?_
  refine w_aload_n gz_109_4 rfl ?_
  refine w_getX (v := 7) gz_109_5 is_0 rd_9 rfl (by decide) rfl ?_
  refine w_iload_n gz_109_8 rfl ?_
  refine w_iload_n gz_109_9 rfl ?_
  refine w_iload_n gz_109_10 rfl ?_
  refine w_iload gz_109_11 rfl ?_
  refine w_iload gz_109_13 rfl ?_
  refine w_inv (k := 0) (as := [(0, x5), (0, x4), (0, x3), (0, x2), (0, x1), (2, 7)]) (r := []) (x := 94) (ls0 := [(2, 94), (2, 7), (0, x1), (0, x2), (0, x3), (0, x4), (0, x5)]) gz_109_15 gm_87 rfl is_94 rd_2 rfl rfl rfl rfl rfl (c_Desk_opens (d := d) (x1 := 7) (x2 := x1) (x3 := x2) (x4 := x3) (x5 := x4) (x6 := x5) is_7 n_Ln (fun h3 frh3 => ?_) (fun h4 frh4 w5 w6 w7 w8 w9 w10 xp11 xp12 xp13 xp14 xp15 => ?_))
  ·
    have gh3 : my_fr [(2, 15), (2, 16), (8, 0), (8, 1), (30, -1), (31, -1), (41, -1), (42, -1), (43, -1), (44, -1)] h h3 := my_fr.tr my_fr.rf (frh3.mo rfl)
    have Ln_h3 : Ln h3 := Ln_ag (my_ag.fr frh3 rfl) n_Ln
    show wp l rho (d + 6) 109 18 [(2, 0), (0, x1), (0, x2), (0, x3), (0, x4), (0, x5)] [(0, 0)] h3 Q
    refine w_ifne (t := 23) gz_109_18 rfl (fun u16 => by exfalso; omega) (fun u16 => ?_)
    refine w_iconst gz_109_21 (by decide) ?_
    exact w_iret gz_109_22 gm_109 (k0 h3 (gh3) Ln_h3)
  ·
    have gh4 : my_fr [(2, 15), (2, 16), (8, 0), (8, 1), (30, -1), (31, -1), (41, -1), (42, -1), (43, -1), (44, -1)] h h4 := my_fr.tr my_fr.rf (frh4.mo rfl)
    have Ln_h4 : Ln h4 := Ln_ag (my_ag.fr frh4 rfl) n_Ln
    show wp l rho (d + 6) 109 18 [(2, 0), (0, x1), (0, x2), (0, x3), (0, x4), (0, x5)] [(0, 1)] h4 Q
    have Td_h4t17 : Td h4 x1 := xp15
    refine w_ifne (t := 23) gz_109_18 rfl (fun u18 => ?_) (fun u18 => by exfalso; omega)
    refine w_aload_n gz_109_23 rfl ?_
    refine w_getX (v := 94) gz_109_24 is_0 rd_9 rfl (by decide) rfl ?_
    refine w_aload_n gz_109_27 rfl ?_
    refine w_getX (v := 7) gz_109_28 is_0 rd_9 rfl (by decide) rfl ?_
    refine w_iload_n gz_109_31 rfl ?_
    refine w_iload_n gz_109_32 rfl ?_
    refine w_iload_n gz_109_33 rfl ?_
    refine w_iload gz_109_34 rfl ?_
    refine w_iload gz_109_36 rfl ?_
    refine w_inv (k := 2) (as := [(0, x5), (0, x4), (0, x3), (0, x2), (0, x1), (2, 7)]) (r := []) (x := 94) (ls0 := [(2, 94), (2, 7), (0, x1), (0, x2), (0, x3), (0, x4), (0, x5), (9, 0), (9, 0)]) gz_109_38 gm_110 rfl is_94 rd_2 rfl rfl rfl rfl rfl (c_Desk_goesStraight (d := (d + 2)) (x1 := 7) (x2 := x1) (x3 := x2) (x4 := x3) (x5 := x4) (x6 := x5) is_7 (by omega) (by omega) (by omega) (by omega) (by first | assumption | omega | (subst_vars; omega)) (by first | assumption | omega | (subst_vars; omega)) (fun h21 frh21 => ?_) (fun h22 frh22 => ?_))
    ·
      have gh21 : my_fr [(2, 15), (2, 16), (8, 0), (8, 1), (30, -1), (31, -1), (41, -1), (42, -1), (43, -1), (44, -1)] h h21 := my_fr.tr gh4 (frh21.mo rfl)
      have Ln_h21 : Ln h21 := Ln_ag (my_ag.fr frh21 rfl) Ln_h4
      have Td_h21 : Td h21 x1 := Td_ag (my_ag.fr frh21 rfl) Ln_h4 Td_h4t17
      show wp l rho (d + 6) 109 41 [(2, 0), (0, x1), (0, x2), (0, x3), (0, x4), (0, x5)] [(0, 0)] h21 Q
      refine w_ifeq (t := 55) gz_109_41 rfl (fun u23 => ?_) (fun u23 => by exfalso; omega)
      refine w_iconst gz_109_55 (by decide) ?_
      exact w_iret gz_109_56 gm_109 (k2 h21 (gh21) (by omega) (by omega) (by omega) (by omega) Ln_h21)
    ·
      have gh22 : my_fr [(2, 15), (2, 16), (8, 0), (8, 1), (30, -1), (31, -1), (41, -1), (42, -1), (43, -1), (44, -1)] h h22 := my_fr.tr gh4 (frh22.mo rfl)
      have Ln_h22 : Ln h22 := Ln_ag (my_ag.fr frh22 rfl) Ln_h4
      have Td_h22 : Td h22 x1 := Td_ag (my_ag.fr frh22 rfl) Ln_h4 Td_h4t17
      show wp l rho (d + 6) 109 41 [(2, 0), (0, x1), (0, x2), (0, x3), (0, x4), (0, x5)] [(0, 1)] h22 Q
      refine w_ifeq (t := 55) gz_109_41 rfl (fun u24 => by exfalso; omega) (fun u24 => ?_)
      refine w_aload_n gz_109_44 rfl ?_
      refine w_getX (v := 94) gz_109_45 is_0 rd_9 rfl (by decide) rfl ?_
      refine w_iload_n gz_109_48 rfl ?_
      refine w_inv (k := 1) (as := [(0, x1)]) (r := []) (x := 94) (ls0 := [(2, 94), (0, x1), (9, 0)]) gz_109_49 gm_111 rfl is_94 rd_2 rfl rfl rfl rfl rfl (c_Desk_faultsOfTrial (d := (d + 1)) (x1 := x1) (by omega) (by omega) Ln_h22 Td_h22 (fun h26 frh26 => ?_) (fun h27 frh27 => ?_) (fun h28 v29 frh28 => ?_))
      ·
        have gh26 : my_fr [(2, 15), (2, 16), (8, 0), (8, 1), (30, -1), (31, -1), (41, -1), (42, -1), (43, -1), (44, -1)] h h26 := my_fr.tr gh22 (frh26.mo rfl)
        have Ln_h26 : Ln h26 := Ln_ag (my_ag.fr frh26 rfl) Ln_h22
        have Td_h26 : Td h26 x1 := Td_ag (my_ag.fr frh26 rfl) Ln_h22 Td_h22
        show wp l rho (d + 6) 109 52 [(2, 0), (0, x1), (0, x2), (0, x3), (0, x4), (0, x5)] [(0, 0)] h26 Q
        refine w_goto (t := 56) gz_109_52 rfl ?_
        exact w_iret gz_109_56 gm_109 (k1 h26 (gh26) (by omega) (by omega) (by omega) (by omega) Ln_h26)
      ·
        have gh27 : my_fr [(2, 15), (2, 16), (8, 0), (8, 1), (30, -1), (31, -1), (41, -1), (42, -1), (43, -1), (44, -1)] h h27 := my_fr.tr gh22 (frh27.mo rfl)
        have Ln_h27 : Ln h27 := Ln_ag (my_ag.fr frh27 rfl) Ln_h22
        have Td_h27 : Td h27 x1 := Td_ag (my_ag.fr frh27 rfl) Ln_h22 Td_h22
        show wp l rho (d + 6) 109 52 [(2, 0), (0, x1), (0, x2), (0, x3), (0, x4), (0, x5)] [(0, 1)] h27 Q
        refine w_goto (t := 56) gz_109_52 rfl ?_
        exact w_iret gz_109_56 gm_109 (k2 h27 (gh27) (by omega) (by omega) (by omega) (by omega) Ln_h27)
      ·
        have gh28 : my_fr [(2, 15), (2, 16), (8, 0), (8, 1), (30, -1), (31, -1), (41, -1), (42, -1), (43, -1), (44, -1)] h h28 := my_fr.tr gh22 (frh28.mo rfl)
        have Ln_h28 : Ln h28 := Ln_ag (my_ag.fr frh28 rfl) Ln_h22
        have Td_h28 : Td h28 x1 := Td_ag (my_ag.fr frh28 rfl) Ln_h22 Td_h22
        show wp l rho (d + 6) 109 52 [(2, 0), (0, x1), (0, x2), (0, x3), (0, x4), (0, x5)] [(0, v29)] h28 Q
        refine w_goto (t := 56) gz_109_52 rfl ?_
        exact w_iret gz_109_56 gm_109 (k3 h28 (v29) (gh28) (by omega) (by omega) (by omega) (by omega) Ln_h28)
theorem c_ThroughWindow_barred {l : Launch} {rho : Nat → Int32} {d : Nat} {h : my_H} {Q : my_H → my_V → Prop} {x1 x2 x3 x4 x5 x6 : Int} (n_Ln : Ln h) (k0 : ∀ (h' : my_H), my_fr [(2, 15), (2, 16), (8, 0), (8, 1), (30, -1), (31, -1), (41, -1), (42, -1), (43, -1), (44, -1)] h h' → Ln h' → Q h' (0, (-1))) (k1 : ∀ (h' : my_H) (y : Int), my_fr [(2, 15), (2, 16), (8, 0), (8, 1), (30, -1), (31, -1), (41, -1), (42, -1), (43, -1), (44, -1)] h h' → 0 ≤ y → y ≤ 3 → 0 ≤ x1 → x1 ≤ 5 → 0 ≤ x2 → x2 ≤ 2 → 0 ≤ x6 → x6 ≤ 2 → Ln h' → Q h' (0, y)) : wp l rho (d + 6) 112 0 [(2, 0), (0, x1), (0, x2), (0, x3), (0, x4), (0, x5), (0, x6), (9, 0)] [] h Q := by
  refine w_aload_n gz_112_0 rfl ?_
  refine w_getX (v := 94) gz_112_1 is_0 rd_9 rfl (by decide) rfl ?_
  refine w_aload_n gz_112_4 rfl ?_
  refine w_getX (v := 7) gz_112_5 is_0 rd_9 rfl (by decide) rfl ?_
  refine w_iload_n gz_112_8 rfl ?_
  refine w_iload_n gz_112_9 rfl ?_
  refine w_iload_n gz_112_10 rfl ?_
  refine w_iload gz_112_11 rfl ?_
  refine w_iload gz_112_13 rfl ?_
  refine w_inv (k := 0) (as := [(0, x5), (0, x4), (0, x3), (0, x2), (0, x1), (2, 7)]) (r := []) (x := 94) (ls0 := [(2, 94), (2, 7), (0, x1), (0, x2), (0, x3), (0, x4), (0, x5)]) gz_112_15 gm_87 rfl is_94 rd_2 rfl rfl rfl rfl rfl (c_Desk_opens (d := d) (x1 := 7) (x2 := x1) (x3 := x2) (x4 := x3) (x5 := x4) (x6 := x5) is_7 n_Ln (fun h3 frh3 => ?_) (fun h4 frh4 w5 w6 w7 w8 w9 w10 xp11 xp12 xp13 xp14 xp15 => ?_))
  ·
    have gh3 : my_fr [(2, 15), (2, 16), (8, 0), (8, 1), (30, -1), (31, -1), (41, -1), (42, -1), (43, -1), (44, -1)] h h3 := my_fr.tr my_fr.rf (frh3.mo rfl)
    have Ln_h3 : Ln h3 := Ln_ag (my_ag.fr frh3 rfl) n_Ln
    show wp l rho (d + 6) 112 18 [(2, 0), (0, x1), (0, x2), (0, x3), (0, x4), (0, x5), (0, x6), (9, 0)] [(0, 0)] h3 Q
    refine w_ifeq (t := 42) gz_112_18 rfl (fun u16 => ?_) (fun u16 => by exfalso; omega)
    refine w_iconst gz_112_42 (by decide) ?_
    exact w_iret gz_112_43 gm_112 (k0 h3 (gh3) Ln_h3)
  ·
    have gh4 : my_fr [(2, 15), (2, 16), (8, 0), (8, 1), (30, -1), (31, -1), (41, -1), (42, -1), (43, -1), (44, -1)] h h4 := my_fr.tr my_fr.rf (frh4.mo rfl)
    have Ln_h4 : Ln h4 := Ln_ag (my_ag.fr frh4 rfl) n_Ln
    show wp l rho (d + 6) 112 18 [(2, 0), (0, x1), (0, x2), (0, x3), (0, x4), (0, x5), (0, x6), (9, 0)] [(0, 1)] h4 Q
    have Td_h4t17 : Td h4 x1 := xp15
    refine w_ifeq (t := 42) gz_112_18 rfl (fun u18 => by exfalso; omega) (fun u18 => ?_)
    refine w_aload_n gz_112_21 rfl ?_
    refine w_getX (v := 94) gz_112_22 is_0 rd_9 rfl (by decide) rfl ?_
    refine w_aload_n gz_112_25 rfl ?_
    refine w_getX (v := 7) gz_112_26 is_0 rd_9 rfl (by decide) rfl ?_
    refine w_iload_n gz_112_29 rfl ?_
    refine w_iload_n gz_112_30 rfl ?_
    refine w_iload_n gz_112_31 rfl ?_
    refine w_iload gz_112_32 rfl ?_
    refine w_iload gz_112_34 rfl ?_
    refine w_inv (k := 2) (as := [(0, x5), (0, x4), (0, x3), (0, x2), (0, x1), (2, 7)]) (r := []) (x := 94) (ls0 := [(2, 94), (2, 7), (0, x1), (0, x2), (0, x3), (0, x4), (0, x5), (9, 0), (9, 0)]) gz_112_36 gm_110 rfl is_94 rd_2 rfl rfl rfl rfl rfl (c_Desk_goesStraight (d := (d + 2)) (x1 := 7) (x2 := x1) (x3 := x2) (x4 := x3) (x5 := x4) (x6 := x5) is_7 (by omega) (by omega) (by omega) (by omega) (by first | assumption | omega | (subst_vars; omega)) (by first | assumption | omega | (subst_vars; omega)) (fun h21 frh21 => ?_) (fun h22 frh22 => ?_))
    ·
      have gh21 : my_fr [(2, 15), (2, 16), (8, 0), (8, 1), (30, -1), (31, -1), (41, -1), (42, -1), (43, -1), (44, -1)] h h21 := my_fr.tr gh4 (frh21.mo rfl)
      have Ln_h21 : Ln h21 := Ln_ag (my_ag.fr frh21 rfl) Ln_h4
      have Td_h21 : Td h21 x1 := Td_ag (my_ag.fr frh21 rfl) Ln_h4 Td_h4t17
      show wp l rho (d + 6) 112 39 [(2, 0), (0, x1), (0, x2), (0, x3), (0, x4), (0, x5), (0, x6), (9, 0)] [(0, 0)] h21 Q
      refine w_ifne (t := 44) gz_112_39 rfl (fun u23 => by exfalso; omega) (fun u23 => ?_)
      refine w_iconst gz_112_42 (by decide) ?_
      exact w_iret gz_112_43 gm_112 (k0 h21 (gh21) Ln_h21)
    ·
      have gh22 : my_fr [(2, 15), (2, 16), (8, 0), (8, 1), (30, -1), (31, -1), (41, -1), (42, -1), (43, -1), (44, -1)] h h22 := my_fr.tr gh4 (frh22.mo rfl)
      have Ln_h22 : Ln h22 := Ln_ag (my_ag.fr frh22 rfl) Ln_h4
      have Td_h22 : Td h22 x1 := Td_ag (my_ag.fr frh22 rfl) Ln_h4 Td_h4t17
      show wp l rho (d + 6) 112 39 [(2, 0), (0, x1), (0, x2), (0, x3), (0, x4), (0, x5), (0, x6), (9, 0)] [(0, 1)] h22 Q
      refine w_ifne (t := 44) gz_112_39 rfl (fun u24 => ?_) (fun u24 => by exfalso; omega)
      refine w_aload_n gz_112_44 rfl ?_
      refine w_getX (v := 1) gz_112_45 is_0 rd_9 rfl (by decide) rfl ?_
      refine w_aload_n gz_112_48 rfl ?_
      refine w_getX (v := 94) gz_112_49 is_0 rd_9 rfl (by decide) rfl ?_
      refine w_getX (v := 95) gz_112_52 is_94 rd_2 rfl (by decide) rfl ?_
      refine w_inv (k := 4) (as := [(2, 95)]) (r := []) (x := 1) (ls0 := [(2, 1), (2, 95), (9, 0), (9, 0), (9, 0), (9, 0)]) gz_112_55 gm_19 rfl is_1 rd_3 rfl rfl rfl rfl rfl (c_Laws_firstBroken (d := (d + 3)) (x1 := 95) is_95 ?_ (fun v28 w29 w30 => ?_))
      ·
        show wp l rho (d + 6) 112 58 [(2, 0), (0, x1), (0, x2), (0, x3), (0, x4), (0, x5), (0, x6), (9, 0)] [(0, (-1))] h22 Q
        refine w_istore (ls' := [(2, 0), (0, x1), (0, x2), (0, x3), (0, x4), (0, x5), (0, x6), (0, (-1))]) gz_112_58 gm_112 rfl rfl rfl ?_
        refine w_iload gz_112_60 rfl ?_
        refine w_iconst gz_112_62 (by decide) ?_
        refine w_icne (t := 68) gz_112_63 rfl (fun u31 => by exfalso; omega) (fun u31 => ?_)
        refine w_iconst gz_112_66 (by decide) ?_
        exact w_iret gz_112_67 gm_112 (k0 h22 (gh22) Ln_h22)
      ·
        show wp l rho (d + 6) 112 58 [(2, 0), (0, x1), (0, x2), (0, x3), (0, x4), (0, x5), (0, x6), (9, 0)] [(0, v28)] h22 Q
        refine w_istore (ls' := [(2, 0), (0, x1), (0, x2), (0, x3), (0, x4), (0, x5), (0, x6), (0, v28)]) gz_112_58 gm_112 rfl rfl rfl ?_
        refine w_iload gz_112_60 rfl ?_
        refine w_iconst gz_112_62 (by decide) ?_
        refine w_icne (t := 68) gz_112_63 rfl (fun u32 => ?_) (fun u32 => by exfalso; omega)
        refine w_iload gz_112_68 rfl ?_
        by_cases u33 : x6 = 0
        ·
          refine w_tswE (t := 96) gz_112_70 u33 (by decide) (by decide) rfl rfl ?_
          refine w_iload gz_112_96 rfl ?_
          refine w_iconst gz_112_98 (by decide) ?_
          refine w_idiv gz_112_99 (by omega) (by decide) ?_
          refine w_iconst gz_112_100 (by decide) ?_
          refine w_idiv gz_112_101 (by omega) (by decide) ?_
          exact w_iret gz_112_102 gm_112 (k1 h22 (((v28 / 4) / 4)) (gh22) (by omega) (by omega) (by omega) (by omega) (by omega) (by omega) (by omega) (by omega) Ln_h22)
        ·
          by_cases u34 : x6 = 1
          ·
            refine w_tswE (t := 103) gz_112_70 u34 (by decide) (by decide) rfl rfl ?_
            refine w_iload gz_112_103 rfl ?_
            refine w_iconst gz_112_105 (by decide) ?_
            refine w_idiv gz_112_106 (by omega) (by decide) ?_
            refine w_iconst gz_112_107 (by decide) ?_
            refine w_irem gz_112_108 (by omega) (by decide) ?_
            exact w_iret gz_112_109 gm_112 (k1 h22 (((v28 / 4) % 4)) (gh22) (by omega) (by omega) (by omega) (by omega) (by omega) (by omega) (by omega) (by omega) Ln_h22)
          ·
            by_cases u35 : x6 = 2
            ·
              refine w_tswE (t := 110) gz_112_70 u35 (by decide) (by decide) rfl rfl ?_
              refine w_iload gz_112_110 rfl ?_
              refine w_iconst gz_112_112 (by decide) ?_
              refine w_irem gz_112_113 (by omega) (by decide) ?_
              exact w_iret gz_112_114 gm_112 (k1 h22 ((v28 % 4)) (gh22) (by omega) (by omega) (by omega) (by omega) (by omega) (by omega) (by omega) (by omega) Ln_h22)
            ·
              refine w_tswD (t := 115) gz_112_70 (by omega) rfl ?_
              refine w_iconst gz_112_115 (by decide) ?_
              exact w_iret gz_112_116 gm_112 (k0 h22 (gh22) Ln_h22)
theorem c_Desk_putOn {l : Launch} {rho : Nat → Int32} {d : Nat} {h : my_H} {Q : my_H → my_V → Prop} {x1 x2 x3 x4 x5 x6 : Int} (t1 : my_is 6 x1) (n_Ln : Ln h) (k0 : ∀ (h' : my_H), my_fr [(2, 11), (2, 12), (2, 13), (2, 14), (2, 15), (2, 16), (7, 0), (7, 1), (7, 2), (7, 3), (7, 4), (7, 5), (8, 0), (8, 1), (30, -1), (31, -1), (41, -1), (42, -1), (43, -1), (44, -1)] h h' → Q h' (0, (-1))) (k1 : ∀ (h' : my_H) (y : Int), my_fr [(2, 11), (2, 12), (2, 13), (2, 14), (2, 15), (2, 16), (7, 0), (7, 1), (7, 2), (7, 3), (7, 4), (7, 5), (8, 0), (8, 1), (30, -1), (31, -1), (41, -1), (42, -1), (43, -1), (44, -1)] h h' → 0 ≤ x2 → x2 ≤ 5 → 0 ≤ x3 → x3 ≤ 2 → (-1) ≤ h' 94 12 → Q h' (0, y)) : wp l rho (d + 6) 114 0 [(2, 94), (2, x1), (0, x2), (0, x3), (0, x4), (0, x5), (0, x6)] [] h Q := by
  refine w_aload_n gz_114_0 rfl ?_
  refine w_aload_n gz_114_1 rfl ?_
  refine w_iload_n gz_114_2 rfl ?_
  refine w_iload_n gz_114_3 rfl ?_
  refine w_iload gz_114_4 rfl ?_
  refine w_iload gz_114_6 rfl ?_
  refine w_iload gz_114_8 rfl ?_
  refine w_inv (k := 0) (as := [(0, x6), (0, x5), (0, x4), (0, x3), (0, x2), (2, x1)]) (r := []) (x := 94) (ls0 := [(2, 94), (2, x1), (0, x2), (0, x3), (0, x4), (0, x5), (0, x6)]) gz_114_10 gm_87 rfl is_94 rd_2 rfl rfl rfl rfl rfl (c_Desk_opens (d := d) (x1 := x1) (x2 := x2) (x3 := x3) (x4 := x4) (x5 := x5) (x6 := x6) t1 n_Ln (fun h1 frh1 => ?_) (fun h2 frh2 w3 w4 w5 w6 w7 w8 xp9 xp10 xp11 xp12 xp13 => ?_))
  ·
    have gh1 : my_fr [(2, 11), (2, 12), (2, 13), (2, 14), (2, 15), (2, 16), (7, 0), (7, 1), (7, 2), (7, 3), (7, 4), (7, 5), (8, 0), (8, 1), (30, -1), (31, -1), (41, -1), (42, -1), (43, -1), (44, -1)] h h1 := my_fr.tr my_fr.rf (frh1.mo rfl)
    have Ln_h1 : Ln h1 := Ln_ag (my_ag.fr frh1 rfl) n_Ln
    show wp l rho (d + 6) 114 13 [(2, 94), (2, x1), (0, x2), (0, x3), (0, x4), (0, x5), (0, x6)] [(0, 0)] h1 Q
    refine w_ifne (t := 18) gz_114_13 rfl (fun u14 => by exfalso; omega) (fun u14 => ?_)
    refine w_iconst gz_114_16 (by decide) ?_
    exact w_iret gz_114_17 gm_114 (k0 h1 (gh1))
  ·
    have gh2 : my_fr [(2, 11), (2, 12), (2, 13), (2, 14), (2, 15), (2, 16), (7, 0), (7, 1), (7, 2), (7, 3), (7, 4), (7, 5), (8, 0), (8, 1), (30, -1), (31, -1), (41, -1), (42, -1), (43, -1), (44, -1)] h h2 := my_fr.tr my_fr.rf (frh2.mo rfl)
    have Ln_h2 : Ln h2 := Ln_ag (my_ag.fr frh2 rfl) n_Ln
    show wp l rho (d + 6) 114 13 [(2, 94), (2, x1), (0, x2), (0, x3), (0, x4), (0, x5), (0, x6)] [(0, 1)] h2 Q
    have Td_h2t15 : Td h2 x2 := xp13
    refine w_ifne (t := 18) gz_114_13 rfl (fun u16 => ?_) (fun u16 => by exfalso; omega)
    refine w_aload_n gz_114_18 rfl ?_
    refine w_aload_n gz_114_19 rfl ?_
    refine w_iload_n gz_114_20 rfl ?_
    refine w_iconst gz_114_21 (by decide) ?_
    refine w_iconst gz_114_22 (by decide) ?_
    refine w_inv (k := 2) (as := [(0, 1), (0, (-1)), (0, x2), (2, x1)]) (r := []) (x := 94) (ls0 := [(2, 94), (2, x1), (0, x2), (0, (-1)), (0, 1), (9, 0), (9, 0)]) gz_114_23 gm_92 rfl is_94 rd_2 rfl rfl rfl rfl rfl (c_Desk_search (d := d) (x1 := x1) (x2 := x2) (x3 := (-1)) (x4 := 1) t1 (by omega) (by omega) (by omega) (by omega) (by omega) Ln_h2 Td_h2t15 (by first | assumption | omega | (subst_vars; omega)) (fun h17 frh17 w18 w19 w20 Lst_h17t21 => ?_))
    have gh17 : my_fr [(2, 11), (2, 12), (2, 13), (2, 14), (2, 15), (2, 16), (7, 0), (7, 1), (7, 2), (7, 3), (7, 4), (7, 5), (8, 0), (8, 1), (30, -1), (31, -1), (41, -1), (42, -1), (43, -1), (44, -1)] h h17 := my_fr.tr gh2 (frh17.mo rfl)
    have Ln_h17 : Ln h17 := Ln_ag (my_ag.fr frh17 rfl) Ln_h2
    have Td_h17 : Td h17 x2 := Td_ag (my_ag.fr frh17 rfl) Ln_h2 Td_h2t15
    show wp l rho (d + 6) 114 26 [(2, 94), (2, x1), (0, x2), (0, x3), (0, x4), (0, x5), (0, x6)] [] h17 Q
    refine w_aload_n gz_114_26 rfl ?_
    refine w_getX (v := 112) gz_114_27 is_94 rd_2 rfl (by decide) rfl ?_
    refine v_getI (j := 1) gz_114_30 rfl is_112 rd_7 rfl (fun v23 ev23 pv23 qv23 => ?_)
    refine w_iconst gz_114_33 (by decide) ?_
    refine w_icne (t := 77) gz_114_34 rfl (fun u24 => ?_) (fun u24 => ?_)
    ·
      refine w_aload_n gz_114_77 rfl ?_
      refine w_getX (v := 112) gz_114_78 is_94 rd_2 rfl (by decide) rfl ?_
      refine v_getI (j := 1) gz_114_81 rfl is_112 rd_7 rfl (fun v26 ev26 pv26 qv26 => ?_)
      have zv26 := ev26.trans ev23.symm
      refine w_iconst gz_114_84 (by decide) ?_
      refine w_icne (t := 109) gz_114_85 rfl (fun u27 => ?_) (fun u27 => ?_)
      ·
        refine w_aload_n gz_114_109 rfl ?_
        refine w_getX (v := 112) gz_114_110 is_94 rd_2 rfl (by decide) rfl ?_
        refine v_getI (j := 1) gz_114_113 rfl is_112 rd_7 rfl (fun v29 ev29 pv29 qv29 => ?_)
        have zv29 := ev29.trans ev26.symm
        refine w_iconst gz_114_116 (by decide) ?_
        refine w_icne (t := 135) gz_114_117 rfl (fun u30 => ?_) (fun u30 => ?_)
        ·
          refine w_aload_n gz_114_135 rfl ?_
          refine w_getX (v := 112) gz_114_136 is_94 rd_2 rfl (by decide) rfl ?_
          refine v_getI (j := 0) gz_114_139 rfl is_112 rd_7 rfl (fun v32 ev32 pv32 qv32 => ?_)
          have c33 := (rfl : h17 94 12 = h17 94 12)
          exact w_iret gz_114_142 gm_114 (k1 h17 (v32) (gh17) (by omega) (by omega) (by omega) (by omega) (by omega))
        ·
          have qL := Lst_h17t21; unfold Lst at qL
          refine w_aload_n gz_114_120 rfl ?_
          refine w_aload_n gz_114_121 rfl ?_
          refine w_getX (v := 112) gz_114_122 is_94 rd_2 rfl (by decide) rfl ?_
          refine v_getI (j := 2) gz_114_125 rfl is_112 rd_7 rfl (fun v35 ev35 pv35 qv35 => ?_)
          refine w_aload_n gz_114_128 rfl ?_
          refine w_getX (v := 110) gz_114_129 is_94 rd_2 rfl (by decide) rfl ?_
          have hi37 : 0 ≤ v35 := by omega
          have hi38 : v35 ≤ 2 := by omega
          refine w_inv (k := 0) (as := [(2, 110), (0, v35)]) (r := []) (x := x1) (ls0 := [(2, x1), (0, v35), (2, 110)]) gz_114_132 gm_16 rfl t1 rd_6 rfl rfl rfl rfl rfl ?_
          refine w_aload_n gz_16_0 rfl ?_
          refine w_iconst gz_16_1 (by decide) ?_
          refine w_aload_n gz_16_2 rfl ?_
          refine w_getX (v := (x1 + 1)) gz_16_3 t1 rd_6 rfl (by decide) rfl ?_
          refine w_iload_n gz_16_6 rfl ?_
          refine w_aload_n gz_16_7 rfl ?_
          refine w_iconst gz_16_8 (by decide) ?_
          refine w_iald gz_16_9 is_110 rd_41 (by omega) (by omega) (fun v40 ev40 pv40 qv40 => ?_)
          have hi41 : 0 ≤ v40 := by first | omega | (have q := hrow 0 (by decide) (by decide); omega)
          have hi42 : v40 ≤ 19 := by first | omega | (have q := hrow 0 (by decide) (by decide); omega)
          refine w_inS (k := 0) (as := [(0, v40), (0, v35)]) (r := [(2, (x1 + 1)), (0, 0), (2, 110)]) (ls0 := [(0, v35), (0, v40)]) gz_16_10 gm_17 rfl rfl rfl rfl rfl rfl ?_
          refine w_iload_n gz_17_0 rfl ?_
          refine w_bipush gz_17_1 (by decide) ?_
          refine w_imul gz_17_3 ⟨by omega, by omega⟩ ?_
          refine w_iload_n gz_17_4 rfl ?_
          refine w_iadd gz_17_5 ⟨by omega, by omega⟩ ?_
          refine w_iconst gz_17_6 (by decide) ?_
          refine w_imul gz_17_7 ⟨by omega, by omega⟩ ?_
          refine w_iret gz_17_8 gm_17 ?_
          show wp l rho (d + 5) 16 13 [(2, x1), (0, v35), (2, 110)] [(0, (((v35 * 20) + v40) * 4)), (2, (x1 + 1)), (0, 0), (2, 110)] h17 _
          refine w_iconst gz_16_13 (by decide) ?_
          refine w_cpU gz_16_14 is_110 rd_41 (ix_6_1 t1) rd_30 (by omega) (by omega) (by omega) (by omega) (by omega) rfl (by decide) (by decide) (fun h43 fh43 => ?_)
          have gh43 : my_fr [(2, 11), (2, 12), (2, 13), (2, 14), (2, 15), (2, 16), (7, 0), (7, 1), (7, 2), (7, 3), (7, 4), (7, 5), (8, 0), (8, 1), (30, -1), (31, -1), (41, -1), (42, -1), (43, -1), (44, -1)] h h43 := my_fr.cp gh17 (ix_6_1 t1) fh43 rfl
          have Ln_h43 : Ln h43 := Ln_ag (my_ag.cp fh43 (ix_6_1 t1) rfl) Ln_h17
          have Td_h43 : Td h43 x2 := Td_ag (my_ag.cp fh43 (ix_6_1 t1) rfl) Ln_h17 Td_h17
          have Lst_h43 : Lst h43 := Lst_ag (my_ag.cp fh43 (ix_6_1 t1) rfl) Lst_h17t21
          refine w_aload_n gz_16_17 rfl ?_
          refine w_getX (v := (x1 + 2)) gz_16_18 t1 rd_6 rfl (by decide) rfl ?_
          refine w_iload_n gz_16_21 rfl ?_
          refine w_dup2 gz_16_22 rfl rfl ?_
          refine w_iald gz_16_23 (ix_6_2 t1) rd_31 (by omega) (by omega) (fun v45 ev45 pv45 qv45 => ?_)
          refine w_iconst gz_16_24 (by decide) ?_
          refine w_ianyA gz_16_25 (fun v46 pv46 qv46 => ?_)
          refine w_iastA gz_16_26 (ix_6_2 t1) rd_31 (by omega) (by omega) (fun h47 fh47 => ?_)
          have gh47 : my_fr [(2, 11), (2, 12), (2, 13), (2, 14), (2, 15), (2, 16), (7, 0), (7, 1), (7, 2), (7, 3), (7, 4), (7, 5), (8, 0), (8, 1), (30, -1), (31, -1), (41, -1), (42, -1), (43, -1), (44, -1)] h h47 := my_fr.up gh43 (ix_6_2 t1) fh47 rfl
          have Ln_h47 : Ln h47 := Ln_ag (my_ag.up fh47 (ix_6_2 t1) rfl) Ln_h43
          have Td_h47 : Td h47 x2 := Td_ag (my_ag.up fh47 (ix_6_2 t1) rfl) Ln_h43 Td_h43
          have Lst_h47 : Lst h47 := Lst_ag (my_ag.up fh47 (ix_6_2 t1) rfl) Lst_h43
          refine w_vret gz_16_27 gm_16 ?_
          show wp l rho (d + 6) 114 135 [(2, 94), (2, x1), (0, x2), (0, x3), (0, x4), (0, x5), (0, x6)] [] h47 Q
          refine w_aload_n gz_114_135 rfl ?_
          refine w_getX (v := 112) gz_114_136 is_94 rd_2 rfl (by decide) rfl ?_
          refine v_getI (j := 0) gz_114_139 rfl is_112 rd_7 rfl (fun v49 ev49 pv49 qv49 => ?_)
          have c50 := ((my_up_role fh47 is_94 (ix_6_2 t1) rfl).trans ((my_cp_role fh43 is_94 (ix_6_1 t1) rfl).trans (rfl : h17 94 12 = h17 94 12)))
          exact w_iret gz_114_142 gm_114 (k1 h47 (v49) (gh47) (by omega) (by omega) (by omega) (by omega) (by omega))
      ·
        have qL := Lst_h17t21; unfold Lst at qL
        refine w_aload_n gz_114_88 rfl ?_
        refine w_aload_n gz_114_89 rfl ?_
        refine w_getX (v := 112) gz_114_90 is_94 rd_2 rfl (by decide) rfl ?_
        refine v_getI (j := 2) gz_114_93 rfl is_112 rd_7 rfl (fun v52 ev52 pv52 qv52 => ?_)
        refine w_aload_n gz_114_96 rfl ?_
        refine w_getX (v := 112) gz_114_97 is_94 rd_2 rfl (by decide) rfl ?_
        refine v_getI (j := 3) gz_114_100 rfl is_112 rd_7 rfl (fun v54 ev54 pv54 qv54 => ?_)
        have hi55 : 0 ≤ v52 := by omega
        have hi56 : v52 ≤ 2 := by omega
        have hi57 : 0 ≤ v54 := by omega
        have hi58 : v54 ≤ 19 := by omega
        refine w_inv (k := 2) (as := [(0, v54), (0, v52)]) (r := []) (x := x1) (ls0 := [(2, x1), (0, v52), (0, v54), (9, 0), (9, 0)]) gz_114_103 gm_23 rfl t1 rd_6 rfl rfl rfl rfl rfl (c_Rows_drop (d := (d + 4)) (x0 := x1) (x1 := v52) (x2 := v54) t1 (by omega) (by omega) (by omega) (by omega) (fun h59 frh59 fxh59 => ?_))
        have gh59 : my_fr [(2, 11), (2, 12), (2, 13), (2, 14), (2, 15), (2, 16), (7, 0), (7, 1), (7, 2), (7, 3), (7, 4), (7, 5), (8, 0), (8, 1), (30, -1), (31, -1), (41, -1), (42, -1), (43, -1), (44, -1)] h h59 := my_fr.tr gh17 (frh59.mo rfl)
        have Ln_h59 : Ln h59 := Ln_ag (my_ag.fr frh59 rfl) Ln_h17
        have Td_h59 : Td h59 x2 := Td_ag (my_ag.fr frh59 rfl) Ln_h17 Td_h17
        have Lst_h59 : Lst h59 := Lst_ag (my_ag.fr frh59 rfl) Lst_h17t21
        show wp l rho (d + 6) 114 106 [(2, 94), (2, x1), (0, x2), (0, x3), (0, x4), (0, x5), (0, x6)] [] h59 Q
        refine w_goto (t := 135) gz_114_106 rfl ?_
        refine w_aload_n gz_114_135 rfl ?_
        refine w_getX (v := 112) gz_114_136 is_94 rd_2 rfl (by decide) rfl ?_
        refine v_getI (j := 0) gz_114_139 rfl is_112 rd_7 rfl (fun v61 ev61 pv61 qv61 => ?_)
        have c62 := ((my_fr.at frh59 is_94 rfl).trans (rfl : h17 94 12 = h17 94 12))
        exact w_iret gz_114_142 gm_114 (k1 h59 (v61) (gh59) (by omega) (by omega) (by omega) (by omega) (by omega))
    ·
      have qL := Lst_h17t21; unfold Lst at qL
      refine w_aload_n gz_114_37 rfl ?_
      refine w_getX (v := (x1 + 1)) gz_114_38 t1 rd_6 rfl (by decide) rfl ?_
      refine w_aload_n gz_114_41 rfl ?_
      refine w_getX (v := 112) gz_114_42 is_94 rd_2 rfl (by decide) rfl ?_
      refine v_getI (j := 2) gz_114_45 rfl is_112 rd_7 rfl (fun v65 ev65 pv65 qv65 => ?_)
      refine w_aload_n gz_114_48 rfl ?_
      refine w_getX (v := 112) gz_114_49 is_94 rd_2 rfl (by decide) rfl ?_
      refine v_getI (j := 3) gz_114_52 rfl is_112 rd_7 rfl (fun v67 ev67 pv67 qv67 => ?_)
      have hi68 : 0 ≤ v65 := by omega
      have hi69 : v65 ≤ 2 := by omega
      have hi70 : 0 ≤ v67 := by omega
      have hi71 : v67 ≤ 19 := by omega
      refine w_inS (k := 0) (as := [(0, v67), (0, v65)]) (r := [(2, (x1 + 1))]) (ls0 := [(0, v65), (0, v67)]) gz_114_55 gm_17 rfl rfl rfl rfl rfl rfl ?_
      refine w_iload_n gz_17_0 rfl ?_
      refine w_bipush gz_17_1 (by decide) ?_
      refine w_imul gz_17_3 ⟨by omega, by omega⟩ ?_
      refine w_iload_n gz_17_4 rfl ?_
      refine w_iadd gz_17_5 ⟨by omega, by omega⟩ ?_
      refine w_iconst gz_17_6 (by decide) ?_
      refine w_imul gz_17_7 ⟨by omega, by omega⟩ ?_
      refine w_iret gz_17_8 gm_17 ?_
      show wp l rho (d + 6) 114 58 [(2, 94), (2, x1), (0, x2), (0, x3), (0, x4), (0, x5), (0, x6)] [(0, (((v65 * 20) + v67) * 4)), (2, (x1 + 1))] h17 Q
      refine w_aload_n gz_114_58 rfl ?_
      refine w_getX (v := 112) gz_114_59 is_94 rd_2 rfl (by decide) rfl ?_
      refine v_getI (j := 4) gz_114_62 rfl is_112 rd_7 rfl (fun v73 ev73 pv73 qv73 => ?_)
      have hi74 : 0 ≤ v73 := by omega
      have hi75 : v73 ≤ 3 := by omega
      refine w_iadd gz_114_65 ⟨by omega, by omega⟩ ?_
      refine w_aload_n gz_114_66 rfl ?_
      refine w_getX (v := 112) gz_114_67 is_94 rd_2 rfl (by decide) rfl ?_
      refine v_getI (j := 5) gz_114_70 rfl is_112 rd_7 rfl (fun v77 ev77 pv77 qv77 => ?_)
      have hi78 : 0 ≤ v77 := by omega
      have hi79 : v77 ≤ 19 := by omega
      refine w_iast gz_114_73 (ix_6_1 t1) rd_30 (by omega) (by omega) (by omega) (by omega) (fun h80 fh80 => ?_)
      have gh80 : my_fr [(2, 11), (2, 12), (2, 13), (2, 14), (2, 15), (2, 16), (7, 0), (7, 1), (7, 2), (7, 3), (7, 4), (7, 5), (8, 0), (8, 1), (30, -1), (31, -1), (41, -1), (42, -1), (43, -1), (44, -1)] h h80 := my_fr.up gh17 (ix_6_1 t1) fh80 rfl
      have Ln_h80 : Ln h80 := Ln_ag (my_ag.up fh80 (ix_6_1 t1) rfl) Ln_h17
      have Td_h80 : Td h80 x2 := Td_ag (my_ag.up fh80 (ix_6_1 t1) rfl) Ln_h17 Td_h17
      have Lst_h80 : Lst h80 := Lst_ag (my_ag.up fh80 (ix_6_1 t1) rfl) Lst_h17t21
      refine w_goto (t := 135) gz_114_74 rfl ?_
      refine w_aload_n gz_114_135 rfl ?_
      refine w_getX (v := 112) gz_114_136 is_94 rd_2 rfl (by decide) rfl ?_
      refine v_getI (j := 0) gz_114_139 rfl is_112 rd_7 rfl (fun v82 ev82 pv82 qv82 => ?_)
      have c83 := ((my_up_role fh80 is_94 (ix_6_1 t1) rfl).trans (rfl : h17 94 12 = h17 94 12))
      exact w_iret gz_114_142 gm_114 (k1 h80 (v82) (gh80) (by omega) (by omega) (by omega) (by omega) (by omega))
theorem c_ThroughWindow_twice {l : Launch} {rho : Nat → Int32} {d : Nat} {h : my_H} {Q : my_H → my_V → Prop} {x1 x2 x3 x4 x5 : Int} (n_Ln : Ln h) (k0 : ∀ (h' : my_H), my_fr [(2, 11), (2, 12), (2, 13), (2, 14), (2, 15), (2, 16), (7, 0), (7, 1), (7, 2), (7, 3), (7, 4), (7, 5), (8, 0), (8, 1), (30, -1), (31, -1), (41, -1), (42, -1), (43, -1), (44, -1)] h h' → Ln h' → Q h' (0, (-1))) (k1 : ∀ (h' : my_H), my_fr [(2, 11), (2, 12), (2, 13), (2, 14), (2, 15), (2, 16), (7, 0), (7, 1), (7, 2), (7, 3), (7, 4), (7, 5), (8, 0), (8, 1), (30, -1), (31, -1), (41, -1), (42, -1), (43, -1), (44, -1)] h h' → 0 ≤ x1 → x1 ≤ 5 → Ln h' → Q h' (0, 0)) (k2 : ∀ (h' : my_H), my_fr [(2, 11), (2, 12), (2, 13), (2, 14), (2, 15), (2, 16), (7, 0), (7, 1), (7, 2), (7, 3), (7, 4), (7, 5), (8, 0), (8, 1), (30, -1), (31, -1), (41, -1), (42, -1), (43, -1), (44, -1)] h h' → 0 ≤ x1 → x1 ≤ 5 → Ln h' → Q h' (0, 1)) : wp l rho (d + 7) 115 0 [(2, 0), (0, x1), (0, x2), (0, x3), (0, x4), (0, x5), (9, 0)] [] h Q := by
  have J131_0 : ∀ (h131_0 : my_H), my_fr [(2, 11), (2, 12), (2, 13), (2, 14), (2, 15), (2, 16), (7, 0), (7, 1), (7, 2), (7, 3), (7, 4), (7, 5), (8, 0), (8, 1), (30, -1), (31, -1), (41, -1), (42, -1), (43, -1), (44, -1)] h h131_0 → 0 ≤ x1 → x1 ≤ 5 → Ln h131_0 → wp l rho (d + 7) 115 131 [(2, 0), (0, x1), (0, x2), (0, x3), (0, x4), (0, x5), (9, 0)] [] h131_0 Q := by
    intro h131_0 gh_131_0 q0_131_0 q1_131_0 n_Ln_131_0
    refine w_iconst gz_115_131 (by decide) ?_
    refine w_istore (ls' := [(2, 0), (0, x1), (0, x2), (0, x3), (0, x4), (0, x5), (0, 0)]) gz_115_132 gm_115 rfl rfl rfl ?_
    refine w_iload gz_115_134 rfl ?_
    refine w_ifeq (t := 157) gz_115_136 rfl (fun u1 => ?_) (fun u1 => by exfalso; omega)
    refine w_iconst gz_115_157 (by decide) ?_
    exact w_iret gz_115_158 gm_115 (k1 h131_0 (gh_131_0) (by omega) (by omega) n_Ln_131_0)
  refine w_aload_n gz_115_0 rfl ?_
  refine w_getX (v := 94) gz_115_1 is_0 rd_9 rfl (by decide) rfl ?_
  refine w_aload_n gz_115_4 rfl ?_
  refine w_getX (v := 7) gz_115_5 is_0 rd_9 rfl (by decide) rfl ?_
  refine w_iload_n gz_115_8 rfl ?_
  refine w_iconst gz_115_9 (by decide) ?_
  refine w_iload_n gz_115_10 rfl ?_
  refine w_iload_n gz_115_11 rfl ?_
  refine w_iload gz_115_12 rfl ?_
  refine w_inv (k := 0) (as := [(0, x4), (0, x3), (0, x2), (0, 0), (0, x1), (2, 7)]) (r := []) (x := 94) (ls0 := [(2, 94), (2, 7), (0, x1), (0, 0), (0, x2), (0, x3), (0, x4)]) gz_115_14 gm_87 rfl is_94 rd_2 rfl rfl rfl rfl rfl (c_Desk_opens (d := (d + 1)) (x1 := 7) (x2 := x1) (x3 := 0) (x4 := x2) (x5 := x3) (x6 := x4) is_7 n_Ln (fun h4 frh4 => ?_) (fun h5 frh5 w6 w7 w8 w9 w10 w11 xp12 xp13 xp14 xp15 xp16 => ?_))
  ·
    have gh4 : my_fr [(2, 11), (2, 12), (2, 13), (2, 14), (2, 15), (2, 16), (7, 0), (7, 1), (7, 2), (7, 3), (7, 4), (7, 5), (8, 0), (8, 1), (30, -1), (31, -1), (41, -1), (42, -1), (43, -1), (44, -1)] h h4 := my_fr.tr my_fr.rf (frh4.mo rfl)
    have Ln_h4 : Ln h4 := Ln_ag (my_ag.fr frh4 rfl) n_Ln
    show wp l rho (d + 7) 115 17 [(2, 0), (0, x1), (0, x2), (0, x3), (0, x4), (0, x5), (9, 0)] [(0, 0)] h4 Q
    refine w_ifeq (t := 40) gz_115_17 rfl (fun u17 => ?_) (fun u17 => by exfalso; omega)
    refine w_iconst gz_115_40 (by decide) ?_
    exact w_iret gz_115_41 gm_115 (k0 h4 (gh4) Ln_h4)
  ·
    have gh5 : my_fr [(2, 11), (2, 12), (2, 13), (2, 14), (2, 15), (2, 16), (7, 0), (7, 1), (7, 2), (7, 3), (7, 4), (7, 5), (8, 0), (8, 1), (30, -1), (31, -1), (41, -1), (42, -1), (43, -1), (44, -1)] h h5 := my_fr.tr my_fr.rf (frh5.mo rfl)
    have Ln_h5 : Ln h5 := Ln_ag (my_ag.fr frh5 rfl) n_Ln
    show wp l rho (d + 7) 115 17 [(2, 0), (0, x1), (0, x2), (0, x3), (0, x4), (0, x5), (9, 0)] [(0, 1)] h5 Q
    refine w_ifeq (t := 40) gz_115_17 rfl (fun u18 => by exfalso; omega) (fun u18 => ?_)
    refine w_aload_n gz_115_20 rfl ?_
    refine w_getX (v := 94) gz_115_21 is_0 rd_9 rfl (by decide) rfl ?_
    refine w_aload_n gz_115_24 rfl ?_
    refine w_getX (v := 7) gz_115_25 is_0 rd_9 rfl (by decide) rfl ?_
    refine w_iload_n gz_115_28 rfl ?_
    refine w_iconst gz_115_29 (by decide) ?_
    refine w_iload_n gz_115_30 rfl ?_
    refine w_iload_n gz_115_31 rfl ?_
    refine w_iload gz_115_32 rfl ?_
    refine w_inv (k := 0) (as := [(0, x5), (0, x3), (0, x2), (0, 0), (0, x1), (2, 7)]) (r := []) (x := 94) (ls0 := [(2, 94), (2, 7), (0, x1), (0, 0), (0, x2), (0, x3), (0, x5)]) gz_115_34 gm_87 rfl is_94 rd_2 rfl rfl rfl rfl rfl (c_Desk_opens (d := (d + 1)) (x1 := 7) (x2 := x1) (x3 := 0) (x4 := x2) (x5 := x3) (x6 := x5) is_7 Ln_h5 (fun h21 frh21 => ?_) (fun h22 frh22 w23 w24 w25 w26 w27 w28 xp29 xp30 xp31 xp32 xp33 => ?_))
    ·
      have gh21 : my_fr [(2, 11), (2, 12), (2, 13), (2, 14), (2, 15), (2, 16), (7, 0), (7, 1), (7, 2), (7, 3), (7, 4), (7, 5), (8, 0), (8, 1), (30, -1), (31, -1), (41, -1), (42, -1), (43, -1), (44, -1)] h h21 := my_fr.tr gh5 (frh21.mo rfl)
      have Ln_h21 : Ln h21 := Ln_ag (my_ag.fr frh21 rfl) Ln_h5
      show wp l rho (d + 7) 115 37 [(2, 0), (0, x1), (0, x2), (0, x3), (0, x4), (0, x5), (9, 0)] [(0, 0)] h21 Q
      refine w_ifne (t := 42) gz_115_37 rfl (fun u34 => by exfalso; omega) (fun u34 => ?_)
      refine w_iconst gz_115_40 (by decide) ?_
      exact w_iret gz_115_41 gm_115 (k0 h21 (gh21) Ln_h21)
    ·
      have gh22 : my_fr [(2, 11), (2, 12), (2, 13), (2, 14), (2, 15), (2, 16), (7, 0), (7, 1), (7, 2), (7, 3), (7, 4), (7, 5), (8, 0), (8, 1), (30, -1), (31, -1), (41, -1), (42, -1), (43, -1), (44, -1)] h h22 := my_fr.tr gh5 (frh22.mo rfl)
      have Ln_h22 : Ln h22 := Ln_ag (my_ag.fr frh22 rfl) Ln_h5
      show wp l rho (d + 7) 115 37 [(2, 0), (0, x1), (0, x2), (0, x3), (0, x4), (0, x5), (9, 0)] [(0, 1)] h22 Q
      refine w_ifne (t := 42) gz_115_37 rfl (fun u35 => ?_) (fun u35 => by exfalso; omega)
      refine w_aload_n gz_115_42 rfl ?_
      refine w_getX (v := 145) gz_115_43 is_0 rd_9 rfl (by decide) rfl ?_
      refine w_aload_n gz_115_46 rfl ?_
      refine w_getX (v := 7) gz_115_47 is_0 rd_9 rfl (by decide) rfl ?_
      refine w_inv (k := 0) (as := [(2, 7)]) (r := []) (x := 145) (ls0 := [(2, 145), (2, 7)]) gz_115_50 gm_25 rfl is_145 rd_6 rfl rfl rfl rfl rfl ?_
      refine w_aload_n gz_25_0 rfl ?_
      refine w_getX (v := 8) gz_25_1 is_7 rd_6 rfl (by decide) rfl ?_
      refine w_iconst gz_25_4 (by decide) ?_
      refine w_aload_n gz_25_5 rfl ?_
      refine w_getX (v := 146) gz_25_6 is_145 rd_6 rfl (by decide) rfl ?_
      refine w_iconst gz_25_9 (by decide) ?_
      refine w_aload_n gz_25_10 rfl ?_
      refine w_getX (v := 146) gz_25_11 is_145 rd_6 rfl (by decide) rfl ?_
      refine v_alen (j := 240) gz_25_14 rfl is_146 rd_30 (by decide) ?_
      refine w_cpU gz_25_15 is_8 rd_30 is_146 rd_30 (by omega) (by omega) (by omega) (by omega) (by omega) rfl (by decide) (by decide) (fun h41 fh41 => ?_)
      have gh41 : my_fr [(2, 11), (2, 12), (2, 13), (2, 14), (2, 15), (2, 16), (7, 0), (7, 1), (7, 2), (7, 3), (7, 4), (7, 5), (8, 0), (8, 1), (30, -1), (31, -1), (41, -1), (42, -1), (43, -1), (44, -1)] h h41 := my_fr.cp gh22 is_146 fh41 rfl
      have Ln_h41 : Ln h41 := Ln_ag (my_ag.cp fh41 is_146 rfl) Ln_h22
      refine w_aload_n gz_25_18 rfl ?_
      refine w_getX (v := 9) gz_25_19 is_7 rd_6 rfl (by decide) rfl ?_
      refine w_iconst gz_25_22 (by decide) ?_
      refine w_aload_n gz_25_23 rfl ?_
      refine w_getX (v := 147) gz_25_24 is_145 rd_6 rfl (by decide) rfl ?_
      refine w_iconst gz_25_27 (by decide) ?_
      refine w_aload_n gz_25_28 rfl ?_
      refine w_getX (v := 147) gz_25_29 is_145 rd_6 rfl (by decide) rfl ?_
      refine v_alen (j := 3) gz_25_32 rfl is_147 rd_31 (by decide) ?_
      refine w_cpU gz_25_33 is_9 rd_31 is_147 rd_31 (by omega) (by omega) (by omega) (by omega) (by omega) rfl (by decide) (by decide) (fun h45 fh45 => ?_)
      have gh45 : my_fr [(2, 11), (2, 12), (2, 13), (2, 14), (2, 15), (2, 16), (7, 0), (7, 1), (7, 2), (7, 3), (7, 4), (7, 5), (8, 0), (8, 1), (30, -1), (31, -1), (41, -1), (42, -1), (43, -1), (44, -1)] h h45 := my_fr.cp gh41 is_147 fh45 rfl
      have Ln_h45 : Ln h45 := Ln_ag (my_ag.cp fh45 is_147 rfl) Ln_h41
      refine w_vret gz_25_36 gm_25 ?_
      show wp l rho (d + 7) 115 53 [(2, 0), (0, x1), (0, x2), (0, x3), (0, x4), (0, x5), (9, 0)] [] h45 Q
      refine w_aload_n gz_115_53 rfl ?_
      refine w_getX (v := 148) gz_115_54 is_0 rd_9 rfl (by decide) rfl ?_
      refine w_aload_n gz_115_57 rfl ?_
      refine w_getX (v := 7) gz_115_58 is_0 rd_9 rfl (by decide) rfl ?_
      refine w_inv (k := 0) (as := [(2, 7)]) (r := []) (x := 148) (ls0 := [(2, 148), (2, 7)]) gz_115_61 gm_25 rfl is_148 rd_6 rfl rfl rfl rfl rfl ?_
      refine w_aload_n gz_25_0 rfl ?_
      refine w_getX (v := 8) gz_25_1 is_7 rd_6 rfl (by decide) rfl ?_
      refine w_iconst gz_25_4 (by decide) ?_
      refine w_aload_n gz_25_5 rfl ?_
      refine w_getX (v := 149) gz_25_6 is_148 rd_6 rfl (by decide) rfl ?_
      refine w_iconst gz_25_9 (by decide) ?_
      refine w_aload_n gz_25_10 rfl ?_
      refine w_getX (v := 149) gz_25_11 is_148 rd_6 rfl (by decide) rfl ?_
      refine v_alen (j := 240) gz_25_14 rfl is_149 rd_30 (by decide) ?_
      refine w_cpU gz_25_15 is_8 rd_30 is_149 rd_30 (by omega) (by omega) (by omega) (by omega) (by omega) rfl (by decide) (by decide) (fun h51 fh51 => ?_)
      have gh51 : my_fr [(2, 11), (2, 12), (2, 13), (2, 14), (2, 15), (2, 16), (7, 0), (7, 1), (7, 2), (7, 3), (7, 4), (7, 5), (8, 0), (8, 1), (30, -1), (31, -1), (41, -1), (42, -1), (43, -1), (44, -1)] h h51 := my_fr.cp gh45 is_149 fh51 rfl
      have Ln_h51 : Ln h51 := Ln_ag (my_ag.cp fh51 is_149 rfl) Ln_h45
      refine w_aload_n gz_25_18 rfl ?_
      refine w_getX (v := 9) gz_25_19 is_7 rd_6 rfl (by decide) rfl ?_
      refine w_iconst gz_25_22 (by decide) ?_
      refine w_aload_n gz_25_23 rfl ?_
      refine w_getX (v := 150) gz_25_24 is_148 rd_6 rfl (by decide) rfl ?_
      refine w_iconst gz_25_27 (by decide) ?_
      refine w_aload_n gz_25_28 rfl ?_
      refine w_getX (v := 150) gz_25_29 is_148 rd_6 rfl (by decide) rfl ?_
      refine v_alen (j := 3) gz_25_32 rfl is_150 rd_31 (by decide) ?_
      refine w_cpU gz_25_33 is_9 rd_31 is_150 rd_31 (by omega) (by omega) (by omega) (by omega) (by omega) rfl (by decide) (by decide) (fun h55 fh55 => ?_)
      have gh55 : my_fr [(2, 11), (2, 12), (2, 13), (2, 14), (2, 15), (2, 16), (7, 0), (7, 1), (7, 2), (7, 3), (7, 4), (7, 5), (8, 0), (8, 1), (30, -1), (31, -1), (41, -1), (42, -1), (43, -1), (44, -1)] h h55 := my_fr.cp gh51 is_150 fh55 rfl
      have Ln_h55 : Ln h55 := Ln_ag (my_ag.cp fh55 is_150 rfl) Ln_h51
      refine w_vret gz_25_36 gm_25 ?_
      show wp l rho (d + 7) 115 64 [(2, 0), (0, x1), (0, x2), (0, x3), (0, x4), (0, x5), (9, 0)] [] h55 Q
      refine w_aload_n gz_115_64 rfl ?_
      refine w_getX (v := 94) gz_115_65 is_0 rd_9 rfl (by decide) rfl ?_
      refine w_aload_n gz_115_68 rfl ?_
      refine w_getX (v := 145) gz_115_69 is_0 rd_9 rfl (by decide) rfl ?_
      refine w_iload_n gz_115_72 rfl ?_
      refine w_iconst gz_115_73 (by decide) ?_
      refine w_iload_n gz_115_74 rfl ?_
      refine w_iload_n gz_115_75 rfl ?_
      refine w_iload gz_115_76 rfl ?_
      refine w_inv (k := 0) (as := [(0, x4), (0, x3), (0, x2), (0, 0), (0, x1), (2, 145)]) (r := []) (x := 94) (ls0 := [(2, 94), (2, 145), (0, x1), (0, 0), (0, x2), (0, x3), (0, x4)]) gz_115_78 gm_114 rfl is_94 rd_2 rfl rfl rfl rfl rfl (c_Desk_putOn (d := d) (x1 := 145) (x2 := x1) (x3 := 0) (x4 := x2) (x5 := x3) (x6 := x4) is_145 Ln_h55 (fun h58 frh58 => ?_) (fun h59 v60 frh59 w61 w62 w63 w64 w65 => ?_))
      ·
        have gh58 : my_fr [(2, 11), (2, 12), (2, 13), (2, 14), (2, 15), (2, 16), (7, 0), (7, 1), (7, 2), (7, 3), (7, 4), (7, 5), (8, 0), (8, 1), (30, -1), (31, -1), (41, -1), (42, -1), (43, -1), (44, -1)] h h58 := my_fr.tr gh55 (frh58.mo rfl)
        have Ln_h58 : Ln h58 := Ln_ag (my_ag.fr frh58 rfl) Ln_h55
        show wp l rho (d + 7) 115 81 [(2, 0), (0, x1), (0, x2), (0, x3), (0, x4), (0, x5), (9, 0)] [(0, (-1))] h58 Q
        refine w_iconst gz_115_81 (by decide) ?_
        refine w_iceq (t := 131) gz_115_82 rfl (fun u66 => ?_) (fun u66 => by exfalso; omega)
        exact J131_0 h58 (gh58) (by omega) (by omega) Ln_h58
      ·
        have gh59 : my_fr [(2, 11), (2, 12), (2, 13), (2, 14), (2, 15), (2, 16), (7, 0), (7, 1), (7, 2), (7, 3), (7, 4), (7, 5), (8, 0), (8, 1), (30, -1), (31, -1), (41, -1), (42, -1), (43, -1), (44, -1)] h h59 := my_fr.tr gh55 (frh59.mo rfl)
        have Ln_h59 : Ln h59 := Ln_ag (my_ag.fr frh59 rfl) Ln_h55
        show wp l rho (d + 7) 115 81 [(2, 0), (0, x1), (0, x2), (0, x3), (0, x4), (0, x5), (9, 0)] [(0, v60)] h59 Q
        refine w_iconst gz_115_81 (by decide) ?_
        refine w_iceq (t := 131) gz_115_82 rfl (fun u67 => ?_) (fun u67 => ?_)
        ·
          exact J131_0 h59 (gh59) (by omega) (by omega) Ln_h59
        ·
          refine w_aload_n gz_115_85 rfl ?_
          refine w_getX (v := 94) gz_115_86 is_0 rd_9 rfl (by decide) rfl ?_
          refine w_aload_n gz_115_89 rfl ?_
          refine w_getX (v := 145) gz_115_90 is_0 rd_9 rfl (by decide) rfl ?_
          refine w_iload_n gz_115_93 rfl ?_
          refine w_iconst gz_115_94 (by decide) ?_
          refine w_iload_n gz_115_95 rfl ?_
          refine w_iload_n gz_115_96 rfl ?_
          refine w_iload gz_115_97 rfl ?_
          refine w_inv (k := 0) (as := [(0, x5), (0, x3), (0, x2), (0, 0), (0, x1), (2, 145)]) (r := []) (x := 94) (ls0 := [(2, 94), (2, 145), (0, x1), (0, 0), (0, x2), (0, x3), (0, x5)]) gz_115_99 gm_114 rfl is_94 rd_2 rfl rfl rfl rfl rfl (c_Desk_putOn (d := d) (x1 := 145) (x2 := x1) (x3 := 0) (x4 := x2) (x5 := x3) (x6 := x5) is_145 Ln_h59 (fun h70 frh70 => ?_) (fun h71 v72 frh71 w73 w74 w75 w76 w77 => ?_))
          ·
            have gh70 : my_fr [(2, 11), (2, 12), (2, 13), (2, 14), (2, 15), (2, 16), (7, 0), (7, 1), (7, 2), (7, 3), (7, 4), (7, 5), (8, 0), (8, 1), (30, -1), (31, -1), (41, -1), (42, -1), (43, -1), (44, -1)] h h70 := my_fr.tr gh59 (frh70.mo rfl)
            have Ln_h70 : Ln h70 := Ln_ag (my_ag.fr frh70 rfl) Ln_h59
            show wp l rho (d + 7) 115 102 [(2, 0), (0, x1), (0, x2), (0, x3), (0, x4), (0, x5), (9, 0)] [(0, (-1))] h70 Q
            refine w_iconst gz_115_102 (by decide) ?_
            refine w_iceq (t := 131) gz_115_103 rfl (fun u78 => ?_) (fun u78 => by exfalso; omega)
            exact J131_0 h70 (gh70) (by omega) (by omega) Ln_h70
          ·
            have gh71 : my_fr [(2, 11), (2, 12), (2, 13), (2, 14), (2, 15), (2, 16), (7, 0), (7, 1), (7, 2), (7, 3), (7, 4), (7, 5), (8, 0), (8, 1), (30, -1), (31, -1), (41, -1), (42, -1), (43, -1), (44, -1)] h h71 := my_fr.tr gh59 (frh71.mo rfl)
            have Ln_h71 : Ln h71 := Ln_ag (my_ag.fr frh71 rfl) Ln_h59
            show wp l rho (d + 7) 115 102 [(2, 0), (0, x1), (0, x2), (0, x3), (0, x4), (0, x5), (9, 0)] [(0, v72)] h71 Q
            refine w_iconst gz_115_102 (by decide) ?_
            refine w_iceq (t := 131) gz_115_103 rfl (fun u79 => ?_) (fun u79 => ?_)
            ·
              exact J131_0 h71 (gh71) (by omega) (by omega) Ln_h71
            ·
              refine w_aload_n gz_115_106 rfl ?_
              refine w_getX (v := 94) gz_115_107 is_0 rd_9 rfl (by decide) rfl ?_
              refine w_aload_n gz_115_110 rfl ?_
              refine w_getX (v := 148) gz_115_111 is_0 rd_9 rfl (by decide) rfl ?_
              refine w_iload_n gz_115_114 rfl ?_
              refine w_iconst gz_115_115 (by decide) ?_
              refine w_iload_n gz_115_116 rfl ?_
              refine w_iload_n gz_115_117 rfl ?_
              refine w_iload gz_115_118 rfl ?_
              refine w_inv (k := 0) (as := [(0, x5), (0, x3), (0, x2), (0, 0), (0, x1), (2, 148)]) (r := []) (x := 94) (ls0 := [(2, 94), (2, 148), (0, x1), (0, 0), (0, x2), (0, x3), (0, x5)]) gz_115_120 gm_114 rfl is_94 rd_2 rfl rfl rfl rfl rfl (c_Desk_putOn (d := d) (x1 := 148) (x2 := x1) (x3 := 0) (x4 := x2) (x5 := x3) (x6 := x5) is_148 Ln_h71 (fun h82 frh82 => ?_) (fun h83 v84 frh83 w85 w86 w87 w88 w89 => ?_))
              ·
                have gh82 : my_fr [(2, 11), (2, 12), (2, 13), (2, 14), (2, 15), (2, 16), (7, 0), (7, 1), (7, 2), (7, 3), (7, 4), (7, 5), (8, 0), (8, 1), (30, -1), (31, -1), (41, -1), (42, -1), (43, -1), (44, -1)] h h82 := my_fr.tr gh71 (frh82.mo rfl)
                have Ln_h82 : Ln h82 := Ln_ag (my_ag.fr frh82 rfl) Ln_h71
                show wp l rho (d + 7) 115 123 [(2, 0), (0, x1), (0, x2), (0, x3), (0, x4), (0, x5), (9, 0)] [(0, (-1))] h82 Q
                refine w_iconst gz_115_123 (by decide) ?_
                refine w_iceq (t := 131) gz_115_124 rfl (fun u90 => ?_) (fun u90 => by exfalso; omega)
                exact J131_0 h82 (gh82) (by omega) (by omega) Ln_h82
              ·
                have gh83 : my_fr [(2, 11), (2, 12), (2, 13), (2, 14), (2, 15), (2, 16), (7, 0), (7, 1), (7, 2), (7, 3), (7, 4), (7, 5), (8, 0), (8, 1), (30, -1), (31, -1), (41, -1), (42, -1), (43, -1), (44, -1)] h h83 := my_fr.tr gh71 (frh83.mo rfl)
                have Ln_h83 : Ln h83 := Ln_ag (my_ag.fr frh83 rfl) Ln_h71
                show wp l rho (d + 7) 115 123 [(2, 0), (0, x1), (0, x2), (0, x3), (0, x4), (0, x5), (9, 0)] [(0, v84)] h83 Q
                refine w_iconst gz_115_123 (by decide) ?_
                refine w_iceq (t := 131) gz_115_124 rfl (fun u91 => ?_) (fun u91 => ?_)
                ·
                  exact J131_0 h83 (gh83) (by omega) (by omega) Ln_h83
                ·
                  refine w_iconst gz_115_127 (by decide) ?_
                  refine w_goto (t := 132) gz_115_128 rfl ?_
                  refine w_istore (ls' := [(2, 0), (0, x1), (0, x2), (0, x3), (0, x4), (0, x5), (0, 1)]) gz_115_132 gm_115 rfl rfl rfl ?_
                  refine w_iload gz_115_134 rfl ?_
                  refine w_ifeq (t := 157) gz_115_136 rfl (fun u92 => by exfalso; omega) (fun u92 => ?_)
                  refine w_aload_n gz_115_139 rfl ?_
                  refine w_getX (v := 145) gz_115_140 is_0 rd_9 rfl (by decide) rfl ?_
                  refine w_aload_n gz_115_143 rfl ?_
                  refine w_getX (v := 148) gz_115_144 is_0 rd_9 rfl (by decide) rfl ?_
                  refine w_inv (k := 1) (as := [(2, 148)]) (r := []) (x := 145) (ls0 := [(2, 145), (2, 148), (9, 0)]) gz_115_147 gm_116 rfl is_145 rd_6 rfl rfl rfl rfl rfl (c_Rows_same (d := (d + 6)) (x0 := 145) (x1 := 148) is_145 is_148 ?_ ?_)
                  ·
                    show wp l rho (d + 7) 115 150 [(2, 0), (0, x1), (0, x2), (0, x3), (0, x4), (0, x5), (0, 1)] [(0, 0)] h83 Q
                    refine w_ifeq (t := 157) gz_115_150 rfl (fun u95 => ?_) (fun u95 => by exfalso; omega)
                    refine w_iconst gz_115_157 (by decide) ?_
                    exact w_iret gz_115_158 gm_115 (k1 h83 (gh83) (by omega) (by omega) Ln_h83)
                  ·
                    show wp l rho (d + 7) 115 150 [(2, 0), (0, x1), (0, x2), (0, x3), (0, x4), (0, x5), (0, 1)] [(0, 1)] h83 Q
                    refine w_ifeq (t := 157) gz_115_150 rfl (fun u96 => by exfalso; omega) (fun u96 => ?_)
                    refine w_iconst gz_115_153 (by decide) ?_
                    refine w_goto (t := 158) gz_115_154 rfl ?_
                    exact w_iret gz_115_158 gm_115 (k2 h83 (gh83) (by omega) (by omega) Ln_h83)
theorem c_ThroughWindow_back {l : Launch} {rho : Nat → Int32} {d : Nat} {h : my_H} {Q : my_H → my_V → Prop} {x1 x2 x3 x4 : Int} (n_Ln : Ln h) (k0 : ∀ (h' : my_H), my_fr [(2, 11), (2, 12), (2, 13), (2, 14), (2, 15), (2, 16), (7, 0), (7, 1), (7, 2), (7, 3), (7, 4), (7, 5), (8, 0), (8, 1), (30, -1), (31, -1), (41, -1), (42, -1), (43, -1), (44, -1)] h h' → Ln h' → Q h' (0, (-1))) (k1 : ∀ (h' : my_H), my_fr [(2, 11), (2, 12), (2, 13), (2, 14), (2, 15), (2, 16), (7, 0), (7, 1), (7, 2), (7, 3), (7, 4), (7, 5), (8, 0), (8, 1), (30, -1), (31, -1), (41, -1), (42, -1), (43, -1), (44, -1)] h h' → 0 ≤ x1 → x1 ≤ 5 → 0 ≤ x2 → x2 ≤ 9 → 0 ≤ x3 → x3 ≤ 7 → Ln h' → Q h' (0, 0)) (k2 : ∀ (h' : my_H), my_fr [(2, 11), (2, 12), (2, 13), (2, 14), (2, 15), (2, 16), (7, 0), (7, 1), (7, 2), (7, 3), (7, 4), (7, 5), (8, 0), (8, 1), (30, -1), (31, -1), (41, -1), (42, -1), (43, -1), (44, -1)] h h' → 0 ≤ x1 → x1 ≤ 5 → 0 ≤ x2 → x2 ≤ 9 → 0 ≤ x3 → x3 ≤ 7 → Ln h' → Q h' (0, 1)) : wp l rho (d + 7) 117 0 [(2, 0), (0, x1), (0, x2), (0, x3), (0, x4), (9, 0), (9, 0)] [] h Q := by
  have J93_0 : ∀ (p93_0 : Int) (h93_0 : my_H), my_fr [(2, 11), (2, 12), (2, 13), (2, 14), (2, 15), (2, 16), (7, 0), (7, 1), (7, 2), (7, 3), (7, 4), (7, 5), (8, 0), (8, 1), (30, -1), (31, -1), (41, -1), (42, -1), (43, -1), (44, -1)] h h93_0 → 0 ≤ x1 → x1 ≤ 5 → 0 ≤ x2 → x2 ≤ 9 → 0 ≤ x3 → x3 ≤ 7 → Ln h93_0 → wp l rho (d + 7) 117 93 [(2, 0), (0, x1), (0, x2), (0, x3), (0, x4), (0, p93_0), (9, 0)] [] h93_0 Q := by
    intro p93_0 h93_0 gh_93_0 q0_93_0 q1_93_0 q2_93_0 q3_93_0 q4_93_0 q5_93_0 n_Ln_93_0
    refine w_iconst gz_117_93 (by decide) ?_
    refine w_istore (ls' := [(2, 0), (0, x1), (0, x2), (0, x3), (0, x4), (0, p93_0), (0, 0)]) gz_117_94 gm_117 rfl rfl rfl ?_
    refine w_iload gz_117_96 rfl ?_
    refine w_ifeq (t := 119) gz_117_98 rfl (fun u1 => ?_) (fun u1 => by exfalso; omega)
    refine w_iconst gz_117_119 (by decide) ?_
    exact w_iret gz_117_120 gm_117 (k1 h93_0 (gh_93_0) (by omega) (by omega) (by omega) (by omega) (by omega) (by omega) n_Ln_93_0)
  refine w_aload_n gz_117_0 rfl ?_
  refine w_getX (v := 94) gz_117_1 is_0 rd_9 rfl (by decide) rfl ?_
  refine w_aload_n gz_117_4 rfl ?_
  refine w_getX (v := 7) gz_117_5 is_0 rd_9 rfl (by decide) rfl ?_
  refine w_iload_n gz_117_8 rfl ?_
  refine w_iconst gz_117_9 (by decide) ?_
  refine w_iload_n gz_117_10 rfl ?_
  refine w_iload_n gz_117_11 rfl ?_
  refine w_iload gz_117_12 rfl ?_
  refine w_inv (k := 0) (as := [(0, x4), (0, x3), (0, x2), (0, 0), (0, x1), (2, 7)]) (r := []) (x := 94) (ls0 := [(2, 94), (2, 7), (0, x1), (0, 0), (0, x2), (0, x3), (0, x4)]) gz_117_14 gm_87 rfl is_94 rd_2 rfl rfl rfl rfl rfl (c_Desk_opens (d := (d + 1)) (x1 := 7) (x2 := x1) (x3 := 0) (x4 := x2) (x5 := x3) (x6 := x4) is_7 n_Ln (fun h4 frh4 => ?_) (fun h5 frh5 w6 w7 w8 w9 w10 w11 xp12 xp13 xp14 xp15 xp16 => ?_))
  ·
    have gh4 : my_fr [(2, 11), (2, 12), (2, 13), (2, 14), (2, 15), (2, 16), (7, 0), (7, 1), (7, 2), (7, 3), (7, 4), (7, 5), (8, 0), (8, 1), (30, -1), (31, -1), (41, -1), (42, -1), (43, -1), (44, -1)] h h4 := my_fr.tr my_fr.rf (frh4.mo rfl)
    have Ln_h4 : Ln h4 := Ln_ag (my_ag.fr frh4 rfl) n_Ln
    show wp l rho (d + 7) 117 17 [(2, 0), (0, x1), (0, x2), (0, x3), (0, x4), (9, 0), (9, 0)] [(0, 0)] h4 Q
    refine w_ifne (t := 22) gz_117_17 rfl (fun u17 => by exfalso; omega) (fun u17 => ?_)
    refine w_iconst gz_117_20 (by decide) ?_
    exact w_iret gz_117_21 gm_117 (k0 h4 (gh4) Ln_h4)
  ·
    have gh5 : my_fr [(2, 11), (2, 12), (2, 13), (2, 14), (2, 15), (2, 16), (7, 0), (7, 1), (7, 2), (7, 3), (7, 4), (7, 5), (8, 0), (8, 1), (30, -1), (31, -1), (41, -1), (42, -1), (43, -1), (44, -1)] h h5 := my_fr.tr my_fr.rf (frh5.mo rfl)
    have Ln_h5 : Ln h5 := Ln_ag (my_ag.fr frh5 rfl) n_Ln
    show wp l rho (d + 7) 117 17 [(2, 0), (0, x1), (0, x2), (0, x3), (0, x4), (9, 0), (9, 0)] [(0, 1)] h5 Q
    refine w_ifne (t := 22) gz_117_17 rfl (fun u18 => ?_) (fun u18 => by exfalso; omega)
    have hi19 : 0 ≤ x2 := by omega
    have hi20 : x2 ≤ 9 := by omega
    have hi21 : 0 ≤ x3 := by omega
    have hi22 : x3 ≤ 7 := by omega
    refine w_aload_n gz_117_22 rfl ?_
    refine w_getX (v := 94) gz_117_23 is_0 rd_9 rfl (by decide) rfl ?_
    refine w_getX (v := 98) gz_117_26 is_94 rd_2 rfl (by decide) rfl ?_
    refine w_iload_n gz_117_29 rfl ?_
    refine w_iload_n gz_117_30 rfl ?_
    refine w_inv (k := 0) (as := [(0, x3), (0, x2)]) (r := []) (x := 98) (ls0 := [(2, 98), (0, x2), (0, x3)]) gz_117_31 gm_74 rfl is_98 rd_8 rfl rfl rfl rfl rfl ?_
    refine w_aload_n gz_74_0 rfl ?_
    refine w_getX (v := 99) gz_74_1 is_98 rd_8 rfl (by decide) rfl ?_
    refine w_iload_n gz_74_4 rfl ?_
    refine w_bipush gz_74_5 (by decide) ?_
    refine w_imul gz_74_7 ⟨by omega, by omega⟩ ?_
    refine w_iload_n gz_74_8 rfl ?_
    refine w_iadd gz_74_9 ⟨by omega, by omega⟩ ?_
    refine w_gldA gz_74_10 is_99 rd_42 (by omega) (by omega) (fun v26 ev26 pv26 qv26 => ?_)
    refine w_iret gz_74_11 gm_74 ?_
    show wp l rho (d + 7) 117 34 [(2, 0), (0, x1), (0, x2), (0, x3), (0, x4), (9, 0), (9, 0)] [(0, v26)] h5 Q
    refine w_istore (ls' := [(2, 0), (0, x1), (0, x2), (0, x3), (0, x4), (0, v26), (9, 0)]) gz_117_34 gm_117 rfl rfl rfl ?_
    refine w_aload_n gz_117_36 rfl ?_
    refine w_getX (v := 145) gz_117_37 is_0 rd_9 rfl (by decide) rfl ?_
    refine w_aload_n gz_117_40 rfl ?_
    refine w_getX (v := 7) gz_117_41 is_0 rd_9 rfl (by decide) rfl ?_
    refine w_inv (k := 0) (as := [(2, 7)]) (r := []) (x := 145) (ls0 := [(2, 145), (2, 7)]) gz_117_44 gm_25 rfl is_145 rd_6 rfl rfl rfl rfl rfl ?_
    refine w_aload_n gz_25_0 rfl ?_
    refine w_getX (v := 8) gz_25_1 is_7 rd_6 rfl (by decide) rfl ?_
    refine w_iconst gz_25_4 (by decide) ?_
    refine w_aload_n gz_25_5 rfl ?_
    refine w_getX (v := 146) gz_25_6 is_145 rd_6 rfl (by decide) rfl ?_
    refine w_iconst gz_25_9 (by decide) ?_
    refine w_aload_n gz_25_10 rfl ?_
    refine w_getX (v := 146) gz_25_11 is_145 rd_6 rfl (by decide) rfl ?_
    refine v_alen (j := 240) gz_25_14 rfl is_146 rd_30 (by decide) ?_
    refine w_cpU gz_25_15 is_8 rd_30 is_146 rd_30 (by omega) (by omega) (by omega) (by omega) (by omega) rfl (by decide) (by decide) (fun h32 fh32 => ?_)
    have gh32 : my_fr [(2, 11), (2, 12), (2, 13), (2, 14), (2, 15), (2, 16), (7, 0), (7, 1), (7, 2), (7, 3), (7, 4), (7, 5), (8, 0), (8, 1), (30, -1), (31, -1), (41, -1), (42, -1), (43, -1), (44, -1)] h h32 := my_fr.cp gh5 is_146 fh32 rfl
    have Ln_h32 : Ln h32 := Ln_ag (my_ag.cp fh32 is_146 rfl) Ln_h5
    refine w_aload_n gz_25_18 rfl ?_
    refine w_getX (v := 9) gz_25_19 is_7 rd_6 rfl (by decide) rfl ?_
    refine w_iconst gz_25_22 (by decide) ?_
    refine w_aload_n gz_25_23 rfl ?_
    refine w_getX (v := 147) gz_25_24 is_145 rd_6 rfl (by decide) rfl ?_
    refine w_iconst gz_25_27 (by decide) ?_
    refine w_aload_n gz_25_28 rfl ?_
    refine w_getX (v := 147) gz_25_29 is_145 rd_6 rfl (by decide) rfl ?_
    refine v_alen (j := 3) gz_25_32 rfl is_147 rd_31 (by decide) ?_
    refine w_cpU gz_25_33 is_9 rd_31 is_147 rd_31 (by omega) (by omega) (by omega) (by omega) (by omega) rfl (by decide) (by decide) (fun h36 fh36 => ?_)
    have gh36 : my_fr [(2, 11), (2, 12), (2, 13), (2, 14), (2, 15), (2, 16), (7, 0), (7, 1), (7, 2), (7, 3), (7, 4), (7, 5), (8, 0), (8, 1), (30, -1), (31, -1), (41, -1), (42, -1), (43, -1), (44, -1)] h h36 := my_fr.cp gh32 is_147 fh36 rfl
    have Ln_h36 : Ln h36 := Ln_ag (my_ag.cp fh36 is_147 rfl) Ln_h32
    refine w_vret gz_25_36 gm_25 ?_
    show wp l rho (d + 7) 117 47 [(2, 0), (0, x1), (0, x2), (0, x3), (0, x4), (0, v26), (9, 0)] [] h36 Q
    refine w_aload_n gz_117_47 rfl ?_
    refine w_getX (v := 94) gz_117_48 is_0 rd_9 rfl (by decide) rfl ?_
    refine w_aload_n gz_117_51 rfl ?_
    refine w_getX (v := 145) gz_117_52 is_0 rd_9 rfl (by decide) rfl ?_
    refine w_iload_n gz_117_55 rfl ?_
    refine w_iconst gz_117_56 (by decide) ?_
    refine w_iload_n gz_117_57 rfl ?_
    refine w_iload_n gz_117_58 rfl ?_
    refine w_iload gz_117_59 rfl ?_
    refine w_inv (k := 0) (as := [(0, x4), (0, x3), (0, x2), (0, 0), (0, x1), (2, 145)]) (r := []) (x := 94) (ls0 := [(2, 94), (2, 145), (0, x1), (0, 0), (0, x2), (0, x3), (0, x4)]) gz_117_61 gm_114 rfl is_94 rd_2 rfl rfl rfl rfl rfl (c_Desk_putOn (d := d) (x1 := 145) (x2 := x1) (x3 := 0) (x4 := x2) (x5 := x3) (x6 := x4) is_145 Ln_h36 (fun h39 frh39 => ?_) (fun h40 v41 frh40 w42 w43 w44 w45 w46 => ?_))
    ·
      have gh39 : my_fr [(2, 11), (2, 12), (2, 13), (2, 14), (2, 15), (2, 16), (7, 0), (7, 1), (7, 2), (7, 3), (7, 4), (7, 5), (8, 0), (8, 1), (30, -1), (31, -1), (41, -1), (42, -1), (43, -1), (44, -1)] h h39 := my_fr.tr gh36 (frh39.mo rfl)
      have Ln_h39 : Ln h39 := Ln_ag (my_ag.fr frh39 rfl) Ln_h36
      show wp l rho (d + 7) 117 64 [(2, 0), (0, x1), (0, x2), (0, x3), (0, x4), (0, v26), (9, 0)] [(0, (-1))] h39 Q
      refine w_iconst gz_117_64 (by decide) ?_
      refine w_iceq (t := 93) gz_117_65 rfl (fun u47 => ?_) (fun u47 => by exfalso; omega)
      exact J93_0 (v26) h39 (gh39) (by omega) (by omega) (by omega) (by omega) (by omega) (by omega) Ln_h39
    ·
      have gh40 : my_fr [(2, 11), (2, 12), (2, 13), (2, 14), (2, 15), (2, 16), (7, 0), (7, 1), (7, 2), (7, 3), (7, 4), (7, 5), (8, 0), (8, 1), (30, -1), (31, -1), (41, -1), (42, -1), (43, -1), (44, -1)] h h40 := my_fr.tr gh36 (frh40.mo rfl)
      have Ln_h40 : Ln h40 := Ln_ag (my_ag.fr frh40 rfl) Ln_h36
      show wp l rho (d + 7) 117 64 [(2, 0), (0, x1), (0, x2), (0, x3), (0, x4), (0, v26), (9, 0)] [(0, v41)] h40 Q
      refine w_iconst gz_117_64 (by decide) ?_
      refine w_iceq (t := 93) gz_117_65 rfl (fun u48 => ?_) (fun u48 => ?_)
      ·
        exact J93_0 (v26) h40 (gh40) (by omega) (by omega) (by omega) (by omega) (by omega) (by omega) Ln_h40
      ·
        refine w_aload_n gz_117_68 rfl ?_
        refine w_getX (v := 94) gz_117_69 is_0 rd_9 rfl (by decide) rfl ?_
        refine w_aload_n gz_117_72 rfl ?_
        refine w_getX (v := 145) gz_117_73 is_0 rd_9 rfl (by decide) rfl ?_
        refine w_iload_n gz_117_76 rfl ?_
        refine w_iconst gz_117_77 (by decide) ?_
        refine w_iload_n gz_117_78 rfl ?_
        refine w_iload_n gz_117_79 rfl ?_
        refine w_iload gz_117_80 rfl ?_
        refine w_inv (k := 0) (as := [(0, v26), (0, x3), (0, x2), (0, 0), (0, x1), (2, 145)]) (r := []) (x := 94) (ls0 := [(2, 94), (2, 145), (0, x1), (0, 0), (0, x2), (0, x3), (0, v26)]) gz_117_82 gm_114 rfl is_94 rd_2 rfl rfl rfl rfl rfl (c_Desk_putOn (d := d) (x1 := 145) (x2 := x1) (x3 := 0) (x4 := x2) (x5 := x3) (x6 := v26) is_145 Ln_h40 (fun h51 frh51 => ?_) (fun h52 v53 frh52 w54 w55 w56 w57 w58 => ?_))
        ·
          have gh51 : my_fr [(2, 11), (2, 12), (2, 13), (2, 14), (2, 15), (2, 16), (7, 0), (7, 1), (7, 2), (7, 3), (7, 4), (7, 5), (8, 0), (8, 1), (30, -1), (31, -1), (41, -1), (42, -1), (43, -1), (44, -1)] h h51 := my_fr.tr gh40 (frh51.mo rfl)
          have Ln_h51 : Ln h51 := Ln_ag (my_ag.fr frh51 rfl) Ln_h40
          show wp l rho (d + 7) 117 85 [(2, 0), (0, x1), (0, x2), (0, x3), (0, x4), (0, v26), (9, 0)] [(0, (-1))] h51 Q
          refine w_iconst gz_117_85 (by decide) ?_
          refine w_iceq (t := 93) gz_117_86 rfl (fun u59 => ?_) (fun u59 => by exfalso; omega)
          exact J93_0 (v26) h51 (gh51) (by omega) (by omega) (by omega) (by omega) (by omega) (by omega) Ln_h51
        ·
          have gh52 : my_fr [(2, 11), (2, 12), (2, 13), (2, 14), (2, 15), (2, 16), (7, 0), (7, 1), (7, 2), (7, 3), (7, 4), (7, 5), (8, 0), (8, 1), (30, -1), (31, -1), (41, -1), (42, -1), (43, -1), (44, -1)] h h52 := my_fr.tr gh40 (frh52.mo rfl)
          have Ln_h52 : Ln h52 := Ln_ag (my_ag.fr frh52 rfl) Ln_h40
          show wp l rho (d + 7) 117 85 [(2, 0), (0, x1), (0, x2), (0, x3), (0, x4), (0, v26), (9, 0)] [(0, v53)] h52 Q
          refine w_iconst gz_117_85 (by decide) ?_
          refine w_iceq (t := 93) gz_117_86 rfl (fun u60 => ?_) (fun u60 => ?_)
          ·
            exact J93_0 (v26) h52 (gh52) (by omega) (by omega) (by omega) (by omega) (by omega) (by omega) Ln_h52
          ·
            refine w_iconst gz_117_89 (by decide) ?_
            refine w_goto (t := 94) gz_117_90 rfl ?_
            refine w_istore (ls' := [(2, 0), (0, x1), (0, x2), (0, x3), (0, x4), (0, v26), (0, 1)]) gz_117_94 gm_117 rfl rfl rfl ?_
            refine w_iload gz_117_96 rfl ?_
            refine w_ifeq (t := 119) gz_117_98 rfl (fun u61 => by exfalso; omega) (fun u61 => ?_)
            refine w_aload_n gz_117_101 rfl ?_
            refine w_getX (v := 145) gz_117_102 is_0 rd_9 rfl (by decide) rfl ?_
            refine w_aload_n gz_117_105 rfl ?_
            refine w_getX (v := 7) gz_117_106 is_0 rd_9 rfl (by decide) rfl ?_
            refine w_inv (k := 1) (as := [(2, 7)]) (r := []) (x := 145) (ls0 := [(2, 145), (2, 7), (9, 0)]) gz_117_109 gm_116 rfl is_145 rd_6 rfl rfl rfl rfl rfl (c_Rows_same (d := (d + 6)) (x0 := 145) (x1 := 7) is_145 is_7 ?_ ?_)
            ·
              show wp l rho (d + 7) 117 112 [(2, 0), (0, x1), (0, x2), (0, x3), (0, x4), (0, v26), (0, 1)] [(0, 0)] h52 Q
              refine w_ifeq (t := 119) gz_117_112 rfl (fun u64 => ?_) (fun u64 => by exfalso; omega)
              refine w_iconst gz_117_119 (by decide) ?_
              exact w_iret gz_117_120 gm_117 (k1 h52 (gh52) (by omega) (by omega) (by omega) (by omega) (by omega) (by omega) Ln_h52)
            ·
              show wp l rho (d + 7) 117 112 [(2, 0), (0, x1), (0, x2), (0, x3), (0, x4), (0, v26), (0, 1)] [(0, 1)] h52 Q
              refine w_ifeq (t := 119) gz_117_112 rfl (fun u65 => by exfalso; omega) (fun u65 => ?_)
              refine w_iconst gz_117_115 (by decide) ?_
              refine w_goto (t := 120) gz_117_116 rfl ?_
              exact w_iret gz_117_120 gm_117 (k2 h52 (gh52) (by omega) (by omega) (by omega) (by omega) (by omega) (by omega) Ln_h52)
theorem c_ThroughWindow_clash {l : Launch} {rho : Nat → Int32} {d : Nat} {h : my_H} {Q : my_H → my_V → Prop} {x1 x2 x3 x4 x5 x6 : Int} (n_Ln : Ln h) (k0 : ∀ (h' : my_H), my_fr [(2, 11), (2, 12), (2, 13), (2, 14), (2, 15), (2, 16), (7, 0), (7, 1), (7, 2), (7, 3), (7, 4), (7, 5), (8, 0), (8, 1), (30, -1), (31, -1), (41, -1), (42, -1), (43, -1), (44, -1)] h h' → Ln h' → Q h' (0, (-1))) (k1 : ∀ (h' : my_H), my_fr [(2, 11), (2, 12), (2, 13), (2, 14), (2, 15), (2, 16), (7, 0), (7, 1), (7, 2), (7, 3), (7, 4), (7, 5), (8, 0), (8, 1), (30, -1), (31, -1), (41, -1), (42, -1), (43, -1), (44, -1)] h h' → 0 ≤ x1 → x1 ≤ 5 → 0 ≤ x2 → 0 ≤ x4 → x4 ≤ 5 → 0 ≤ x5 → Ln h' → Q h' (0, 0)) (k2 : ∀ (h' : my_H), my_fr [(2, 11), (2, 12), (2, 13), (2, 14), (2, 15), (2, 16), (7, 0), (7, 1), (7, 2), (7, 3), (7, 4), (7, 5), (8, 0), (8, 1), (30, -1), (31, -1), (41, -1), (42, -1), (43, -1), (44, -1)] h h' → 0 ≤ x1 → x1 ≤ 5 → 0 ≤ x2 → 0 ≤ x4 → x4 ≤ 5 → 0 ≤ x5 → Ln h' → Q h' (0, 1)) (k3 : ∀ (h' : my_H) (y : Int), my_fr [(2, 11), (2, 12), (2, 13), (2, 14), (2, 15), (2, 16), (7, 0), (7, 1), (7, 2), (7, 3), (7, 4), (7, 5), (8, 0), (8, 1), (30, -1), (31, -1), (41, -1), (42, -1), (43, -1), (44, -1)] h h' → 2 ≤ y → y ≤ 4 → 0 ≤ x1 → x1 ≤ 5 → 0 ≤ x2 → 0 ≤ x4 → x4 ≤ 5 → 0 ≤ x5 → Ln h' → Q h' (0, y)) : wp l rho (d + 7) 118 0 [(2, 0), (0, x1), (0, x2), (0, x3), (0, x4), (0, x5), (0, x6), (9, 0), (9, 0), (9, 0), (9, 0), (9, 0), (9, 0)] [] h Q := by
  have J206_1 : ∀ (p206_0 p206_1 p206_2 p206_3 : Int) (h206_1 : my_H), my_fr [(2, 11), (2, 12), (2, 13), (2, 14), (2, 15), (2, 16), (7, 0), (7, 1), (7, 2), (7, 3), (7, 4), (7, 5), (8, 0), (8, 1), (30, -1), (31, -1), (41, -1), (42, -1), (43, -1), (44, -1)] h h206_1 → 0 ≤ x1 → x1 ≤ 5 → 0 ≤ x2 → 0 ≤ x4 → x4 ≤ 5 → 0 ≤ x5 → Ln h206_1 → wp l rho (d + 7) 118 206 [(2, 0), (0, x1), (0, x2), (0, x3), (0, x4), (0, x5), (0, x6), (0, p206_0), (0, p206_1), (0, p206_2), (0, p206_3), (0, 1), (9, 0)] [] h206_1 Q := by
    intro p206_0 p206_1 p206_2 p206_3 h206_1 gh_206_1 q0_206_1 q1_206_1 q2_206_1 q3_206_1 q4_206_1 q5_206_1 n_Ln_206_1
    refine w_iconst gz_118_206 (by decide) ?_
    refine w_istore (ls' := [(2, 0), (0, x1), (0, x2), (0, x3), (0, x4), (0, x5), (0, x6), (0, p206_0), (0, p206_1), (0, p206_2), (0, p206_3), (0, 1), (0, 0)]) gz_118_207 gm_118 rfl rfl rfl ?_
    refine w_iload gz_118_209 rfl ?_
    refine w_ifeq (t := 239) gz_118_211 rfl (fun u1 => by exfalso; omega) (fun u1 => ?_)
    refine w_iload gz_118_214 rfl ?_
    refine w_ifeq (t := 239) gz_118_216 rfl (fun u2 => ?_) (fun u2 => by exfalso; omega)
    refine w_iload gz_118_239 rfl ?_
    refine w_ifeq (t := 248) gz_118_241 rfl (fun u3 => by exfalso; omega) (fun u3 => ?_)
    refine w_iconst gz_118_244 (by decide) ?_
    refine w_goto (t := 258) gz_118_245 rfl ?_
    exact w_iret gz_118_258 gm_118 (k3 h206_1 (2) (gh_206_1) (by omega) (by omega) (by omega) (by omega) (by omega) (by omega) (by omega) (by omega) n_Ln_206_1)
  have J206_0 : ∀ (p206_0 p206_1 p206_2 p206_3 : Int) (h206_0 : my_H), my_fr [(2, 11), (2, 12), (2, 13), (2, 14), (2, 15), (2, 16), (7, 0), (7, 1), (7, 2), (7, 3), (7, 4), (7, 5), (8, 0), (8, 1), (30, -1), (31, -1), (41, -1), (42, -1), (43, -1), (44, -1)] h h206_0 → 0 ≤ x1 → x1 ≤ 5 → 0 ≤ x2 → 0 ≤ x4 → x4 ≤ 5 → 0 ≤ x5 → Ln h206_0 → wp l rho (d + 7) 118 206 [(2, 0), (0, x1), (0, x2), (0, x3), (0, x4), (0, x5), (0, x6), (0, p206_0), (0, p206_1), (0, p206_2), (0, p206_3), (0, 0), (9, 0)] [] h206_0 Q := by
    intro p206_0 p206_1 p206_2 p206_3 h206_0 gh_206_0 q0_206_0 q1_206_0 q2_206_0 q3_206_0 q4_206_0 q5_206_0 n_Ln_206_0
    refine w_iconst gz_118_206 (by decide) ?_
    refine w_istore (ls' := [(2, 0), (0, x1), (0, x2), (0, x3), (0, x4), (0, x5), (0, x6), (0, p206_0), (0, p206_1), (0, p206_2), (0, p206_3), (0, 0), (0, 0)]) gz_118_207 gm_118 rfl rfl rfl ?_
    refine w_iload gz_118_209 rfl ?_
    refine w_ifeq (t := 239) gz_118_211 rfl (fun u4 => ?_) (fun u4 => by exfalso; omega)
    refine w_iload gz_118_239 rfl ?_
    refine w_ifeq (t := 248) gz_118_241 rfl (fun u5 => ?_) (fun u5 => by exfalso; omega)
    refine w_iload gz_118_248 rfl ?_
    refine w_ifeq (t := 257) gz_118_250 rfl (fun u6 => ?_) (fun u6 => by exfalso; omega)
    refine w_iconst gz_118_257 (by decide) ?_
    exact w_iret gz_118_258 gm_118 (k3 h206_0 (4) (gh_206_0) (by omega) (by omega) (by omega) (by omega) (by omega) (by omega) (by omega) (by omega) n_Ln_206_0)
  have J153_0 : ∀ (p153_0 p153_1 p153_2 p153_3 : Int) (h153_0 : my_H), my_fr [(2, 11), (2, 12), (2, 13), (2, 14), (2, 15), (2, 16), (7, 0), (7, 1), (7, 2), (7, 3), (7, 4), (7, 5), (8, 0), (8, 1), (30, -1), (31, -1), (41, -1), (42, -1), (43, -1), (44, -1)] h h153_0 → 0 ≤ x1 → x1 ≤ 5 → 0 ≤ x2 → 0 ≤ x4 → x4 ≤ 5 → 0 ≤ x5 → Ln h153_0 → wp l rho (d + 7) 118 153 [(2, 0), (0, x1), (0, x2), (0, x3), (0, x4), (0, x5), (0, x6), (0, p153_0), (0, p153_1), (0, p153_2), (0, p153_3), (9, 0), (9, 0)] [] h153_0 Q := by
    intro p153_0 p153_1 p153_2 p153_3 h153_0 gh_153_0 q0_153_0 q1_153_0 q2_153_0 q3_153_0 q4_153_0 q5_153_0 n_Ln_153_0
    refine w_iconst gz_118_153 (by decide) ?_
    refine w_istore (ls' := [(2, 0), (0, x1), (0, x2), (0, x3), (0, x4), (0, x5), (0, x6), (0, p153_0), (0, p153_1), (0, p153_2), (0, p153_3), (0, 0), (9, 0)]) gz_118_154 gm_118 rfl rfl rfl ?_
    refine w_aload_n gz_118_156 rfl ?_
    refine w_getX (v := 94) gz_118_157 is_0 rd_9 rfl (by decide) rfl ?_
    refine w_aload_n gz_118_160 rfl ?_
    refine w_getX (v := 148) gz_118_161 is_0 rd_9 rfl (by decide) rfl ?_
    refine w_iload gz_118_164 rfl ?_
    refine w_iconst gz_118_166 (by decide) ?_
    refine w_iload gz_118_167 rfl ?_
    refine w_iload gz_118_169 rfl ?_
    refine w_iload gz_118_171 rfl ?_
    refine w_inv (k := 0) (as := [(0, x6), (0, p153_3), (0, p153_2), (0, 0), (0, x4), (2, 148)]) (r := []) (x := 94) (ls0 := [(2, 94), (2, 148), (0, x4), (0, 0), (0, p153_2), (0, p153_3), (0, x6)]) gz_118_173 gm_114 rfl is_94 rd_2 rfl rfl rfl rfl rfl (c_Desk_putOn (d := d) (x1 := 148) (x2 := x4) (x3 := 0) (x4 := p153_2) (x5 := p153_3) (x6 := x6) is_148 n_Ln_153_0 (fun h9 frh9 => ?_) (fun h10 v11 frh10 w12 w13 w14 w15 w16 => ?_))
    ·
      have gh9 : my_fr [(2, 11), (2, 12), (2, 13), (2, 14), (2, 15), (2, 16), (7, 0), (7, 1), (7, 2), (7, 3), (7, 4), (7, 5), (8, 0), (8, 1), (30, -1), (31, -1), (41, -1), (42, -1), (43, -1), (44, -1)] h h9 := my_fr.tr gh_153_0 (frh9.mo rfl)
      have Ln_h9 : Ln h9 := Ln_ag (my_ag.fr frh9 rfl) n_Ln_153_0
      show wp l rho (d + 7) 118 176 [(2, 0), (0, x1), (0, x2), (0, x3), (0, x4), (0, x5), (0, x6), (0, p153_0), (0, p153_1), (0, p153_2), (0, p153_3), (0, 0), (9, 0)] [(0, (-1))] h9 Q
      refine w_iconst gz_118_176 (by decide) ?_
      refine w_iceq (t := 206) gz_118_177 rfl (fun u17 => ?_) (fun u17 => by exfalso; omega)
      exact J206_0 (p153_0) (p153_1) (p153_2) (p153_3) h9 (gh9) (by omega) (by omega) (by omega) (by omega) (by omega) (by omega) Ln_h9
    ·
      have gh10 : my_fr [(2, 11), (2, 12), (2, 13), (2, 14), (2, 15), (2, 16), (7, 0), (7, 1), (7, 2), (7, 3), (7, 4), (7, 5), (8, 0), (8, 1), (30, -1), (31, -1), (41, -1), (42, -1), (43, -1), (44, -1)] h h10 := my_fr.tr gh_153_0 (frh10.mo rfl)
      have Ln_h10 : Ln h10 := Ln_ag (my_ag.fr frh10 rfl) n_Ln_153_0
      show wp l rho (d + 7) 118 176 [(2, 0), (0, x1), (0, x2), (0, x3), (0, x4), (0, x5), (0, x6), (0, p153_0), (0, p153_1), (0, p153_2), (0, p153_3), (0, 0), (9, 0)] [(0, v11)] h10 Q
      refine w_iconst gz_118_176 (by decide) ?_
      refine w_iceq (t := 206) gz_118_177 rfl (fun u18 => ?_) (fun u18 => ?_)
      ·
        exact J206_0 (p153_0) (p153_1) (p153_2) (p153_3) h10 (gh10) (by omega) (by omega) (by omega) (by omega) (by omega) (by omega) Ln_h10
      ·
        refine w_aload_n gz_118_180 rfl ?_
        refine w_getX (v := 94) gz_118_181 is_0 rd_9 rfl (by decide) rfl ?_
        refine w_aload_n gz_118_184 rfl ?_
        refine w_getX (v := 148) gz_118_185 is_0 rd_9 rfl (by decide) rfl ?_
        refine w_iload_n gz_118_188 rfl ?_
        refine w_iconst gz_118_189 (by decide) ?_
        refine w_iload gz_118_190 rfl ?_
        refine w_iload gz_118_192 rfl ?_
        refine w_iload_n gz_118_194 rfl ?_
        refine w_inv (k := 0) (as := [(0, x3), (0, p153_1), (0, p153_0), (0, 0), (0, x1), (2, 148)]) (r := []) (x := 94) (ls0 := [(2, 94), (2, 148), (0, x1), (0, 0), (0, p153_0), (0, p153_1), (0, x3)]) gz_118_195 gm_114 rfl is_94 rd_2 rfl rfl rfl rfl rfl (c_Desk_putOn (d := d) (x1 := 148) (x2 := x1) (x3 := 0) (x4 := p153_0) (x5 := p153_1) (x6 := x3) is_148 Ln_h10 (fun h21 frh21 => ?_) (fun h22 v23 frh22 w24 w25 w26 w27 w28 => ?_))
        ·
          have gh21 : my_fr [(2, 11), (2, 12), (2, 13), (2, 14), (2, 15), (2, 16), (7, 0), (7, 1), (7, 2), (7, 3), (7, 4), (7, 5), (8, 0), (8, 1), (30, -1), (31, -1), (41, -1), (42, -1), (43, -1), (44, -1)] h h21 := my_fr.tr gh10 (frh21.mo rfl)
          have Ln_h21 : Ln h21 := Ln_ag (my_ag.fr frh21 rfl) Ln_h10
          show wp l rho (d + 7) 118 198 [(2, 0), (0, x1), (0, x2), (0, x3), (0, x4), (0, x5), (0, x6), (0, p153_0), (0, p153_1), (0, p153_2), (0, p153_3), (0, 0), (9, 0)] [(0, (-1))] h21 Q
          refine w_iconst gz_118_198 (by decide) ?_
          refine w_iceq (t := 206) gz_118_199 rfl (fun u29 => ?_) (fun u29 => by exfalso; omega)
          exact J206_0 (p153_0) (p153_1) (p153_2) (p153_3) h21 (gh21) (by omega) (by omega) (by omega) (by omega) (by omega) (by omega) Ln_h21
        ·
          have gh22 : my_fr [(2, 11), (2, 12), (2, 13), (2, 14), (2, 15), (2, 16), (7, 0), (7, 1), (7, 2), (7, 3), (7, 4), (7, 5), (8, 0), (8, 1), (30, -1), (31, -1), (41, -1), (42, -1), (43, -1), (44, -1)] h h22 := my_fr.tr gh10 (frh22.mo rfl)
          have Ln_h22 : Ln h22 := Ln_ag (my_ag.fr frh22 rfl) Ln_h10
          show wp l rho (d + 7) 118 198 [(2, 0), (0, x1), (0, x2), (0, x3), (0, x4), (0, x5), (0, x6), (0, p153_0), (0, p153_1), (0, p153_2), (0, p153_3), (0, 0), (9, 0)] [(0, v23)] h22 Q
          refine w_iconst gz_118_198 (by decide) ?_
          refine w_iceq (t := 206) gz_118_199 rfl (fun u30 => ?_) (fun u30 => ?_)
          ·
            exact J206_0 (p153_0) (p153_1) (p153_2) (p153_3) h22 (gh22) (by omega) (by omega) (by omega) (by omega) (by omega) (by omega) Ln_h22
          ·
            refine w_iconst gz_118_202 (by decide) ?_
            refine w_goto (t := 207) gz_118_203 rfl ?_
            refine w_istore (ls' := [(2, 0), (0, x1), (0, x2), (0, x3), (0, x4), (0, x5), (0, x6), (0, p153_0), (0, p153_1), (0, p153_2), (0, p153_3), (0, 0), (0, 1)]) gz_118_207 gm_118 rfl rfl rfl ?_
            refine w_iload gz_118_209 rfl ?_
            refine w_ifeq (t := 239) gz_118_211 rfl (fun u31 => ?_) (fun u31 => by exfalso; omega)
            refine w_iload gz_118_239 rfl ?_
            refine w_ifeq (t := 248) gz_118_241 rfl (fun u32 => ?_) (fun u32 => by exfalso; omega)
            refine w_iload gz_118_248 rfl ?_
            refine w_ifeq (t := 257) gz_118_250 rfl (fun u33 => by exfalso; omega) (fun u33 => ?_)
            refine w_iconst gz_118_253 (by decide) ?_
            refine w_goto (t := 258) gz_118_254 rfl ?_
            exact w_iret gz_118_258 gm_118 (k3 h22 (3) (gh22) (by omega) (by omega) (by omega) (by omega) (by omega) (by omega) (by omega) (by omega) Ln_h22)
  refine w_iload_n gz_118_0 rfl ?_
  refine w_bipush gz_118_1 (by decide) ?_
  refine w_ianyD gz_118_3 (by decide) (fun v34 pv34 qv34 => ?_)
  refine w_istore (ls' := [(2, 0), (0, x1), (0, x2), (0, x3), (0, x4), (0, x5), (0, x6), (0, v34), (9, 0), (9, 0), (9, 0), (9, 0), (9, 0)]) gz_118_4 gm_118 rfl rfl rfl ?_
  refine w_iload_n gz_118_6 rfl ?_
  refine w_bipush gz_118_7 (by decide) ?_
  refine w_ianyQ gz_118_9 (by decide) (fun v35 pv35 qv35 => ?_)
  refine w_istore (ls' := [(2, 0), (0, x1), (0, x2), (0, x3), (0, x4), (0, x5), (0, x6), (0, v34), (0, v35), (9, 0), (9, 0), (9, 0), (9, 0)]) gz_118_10 gm_118 rfl rfl rfl ?_
  refine w_iload gz_118_12 rfl ?_
  refine w_bipush gz_118_14 (by decide) ?_
  refine w_ianyD gz_118_16 (by decide) (fun v36 pv36 qv36 => ?_)
  refine w_istore (ls' := [(2, 0), (0, x1), (0, x2), (0, x3), (0, x4), (0, x5), (0, x6), (0, v34), (0, v35), (0, v36), (9, 0), (9, 0), (9, 0)]) gz_118_17 gm_118 rfl rfl rfl ?_
  refine w_iload gz_118_19 rfl ?_
  refine w_bipush gz_118_21 (by decide) ?_
  refine w_ianyQ gz_118_23 (by decide) (fun v37 pv37 qv37 => ?_)
  refine w_istore (ls' := [(2, 0), (0, x1), (0, x2), (0, x3), (0, x4), (0, x5), (0, x6), (0, v34), (0, v35), (0, v36), (0, v37), (9, 0), (9, 0)]) gz_118_24 gm_118 rfl rfl rfl ?_
  refine w_iload_n gz_118_26 rfl ?_
  refine w_iflt (t := 79) gz_118_27 rfl (fun u38 => ?_) (fun u38 => ?_)
  ·
    refine w_iconst gz_118_79 (by decide) ?_
    exact w_iret gz_118_80 gm_118 (k0 h (my_fr.rf) n_Ln)
  ·
    refine w_iload gz_118_30 rfl ?_
    refine w_iflt (t := 79) gz_118_32 rfl (fun u39 => ?_) (fun u39 => ?_)
    ·
      refine w_iconst gz_118_79 (by decide) ?_
      exact w_iret gz_118_80 gm_118 (k0 h (my_fr.rf) n_Ln)
    ·
      refine w_aload_n gz_118_35 rfl ?_
      refine w_getX (v := 94) gz_118_36 is_0 rd_9 rfl (by decide) rfl ?_
      refine w_aload_n gz_118_39 rfl ?_
      refine w_getX (v := 7) gz_118_40 is_0 rd_9 rfl (by decide) rfl ?_
      refine w_iload_n gz_118_43 rfl ?_
      refine w_iconst gz_118_44 (by decide) ?_
      refine w_iload gz_118_45 rfl ?_
      refine w_iload gz_118_47 rfl ?_
      refine w_iload_n gz_118_49 rfl ?_
      refine w_inv (k := 0) (as := [(0, x3), (0, v35), (0, v34), (0, 0), (0, x1), (2, 7)]) (r := []) (x := 94) (ls0 := [(2, 94), (2, 7), (0, x1), (0, 0), (0, v34), (0, v35), (0, x3)]) gz_118_50 gm_87 rfl is_94 rd_2 rfl rfl rfl rfl rfl (c_Desk_opens (d := (d + 1)) (x1 := 7) (x2 := x1) (x3 := 0) (x4 := v34) (x5 := v35) (x6 := x3) is_7 n_Ln (fun h42 frh42 => ?_) (fun h43 frh43 w44 w45 w46 w47 w48 w49 xp50 xp51 xp52 xp53 xp54 => ?_))
      ·
        have gh42 : my_fr [(2, 11), (2, 12), (2, 13), (2, 14), (2, 15), (2, 16), (7, 0), (7, 1), (7, 2), (7, 3), (7, 4), (7, 5), (8, 0), (8, 1), (30, -1), (31, -1), (41, -1), (42, -1), (43, -1), (44, -1)] h h42 := my_fr.tr my_fr.rf (frh42.mo rfl)
        have Ln_h42 : Ln h42 := Ln_ag (my_ag.fr frh42 rfl) n_Ln
        show wp l rho (d + 7) 118 53 [(2, 0), (0, x1), (0, x2), (0, x3), (0, x4), (0, x5), (0, x6), (0, v34), (0, v35), (0, v36), (0, v37), (9, 0), (9, 0)] [(0, 0)] h42 Q
        refine w_ifeq (t := 79) gz_118_53 rfl (fun u55 => ?_) (fun u55 => by exfalso; omega)
        refine w_iconst gz_118_79 (by decide) ?_
        exact w_iret gz_118_80 gm_118 (k0 h42 (gh42) Ln_h42)
      ·
        have gh43 : my_fr [(2, 11), (2, 12), (2, 13), (2, 14), (2, 15), (2, 16), (7, 0), (7, 1), (7, 2), (7, 3), (7, 4), (7, 5), (8, 0), (8, 1), (30, -1), (31, -1), (41, -1), (42, -1), (43, -1), (44, -1)] h h43 := my_fr.tr my_fr.rf (frh43.mo rfl)
        have Ln_h43 : Ln h43 := Ln_ag (my_ag.fr frh43 rfl) n_Ln
        show wp l rho (d + 7) 118 53 [(2, 0), (0, x1), (0, x2), (0, x3), (0, x4), (0, x5), (0, x6), (0, v34), (0, v35), (0, v36), (0, v37), (9, 0), (9, 0)] [(0, 1)] h43 Q
        refine w_ifeq (t := 79) gz_118_53 rfl (fun u56 => by exfalso; omega) (fun u56 => ?_)
        refine w_aload_n gz_118_56 rfl ?_
        refine w_getX (v := 94) gz_118_57 is_0 rd_9 rfl (by decide) rfl ?_
        refine w_aload_n gz_118_60 rfl ?_
        refine w_getX (v := 7) gz_118_61 is_0 rd_9 rfl (by decide) rfl ?_
        refine w_iload gz_118_64 rfl ?_
        refine w_iconst gz_118_66 (by decide) ?_
        refine w_iload gz_118_67 rfl ?_
        refine w_iload gz_118_69 rfl ?_
        refine w_iload gz_118_71 rfl ?_
        refine w_inv (k := 0) (as := [(0, x6), (0, v37), (0, v36), (0, 0), (0, x4), (2, 7)]) (r := []) (x := 94) (ls0 := [(2, 94), (2, 7), (0, x4), (0, 0), (0, v36), (0, v37), (0, x6)]) gz_118_73 gm_87 rfl is_94 rd_2 rfl rfl rfl rfl rfl (c_Desk_opens (d := (d + 1)) (x1 := 7) (x2 := x4) (x3 := 0) (x4 := v36) (x5 := v37) (x6 := x6) is_7 Ln_h43 (fun h59 frh59 => ?_) (fun h60 frh60 w61 w62 w63 w64 w65 w66 xp67 xp68 xp69 xp70 xp71 => ?_))
        ·
          have gh59 : my_fr [(2, 11), (2, 12), (2, 13), (2, 14), (2, 15), (2, 16), (7, 0), (7, 1), (7, 2), (7, 3), (7, 4), (7, 5), (8, 0), (8, 1), (30, -1), (31, -1), (41, -1), (42, -1), (43, -1), (44, -1)] h h59 := my_fr.tr gh43 (frh59.mo rfl)
          have Ln_h59 : Ln h59 := Ln_ag (my_ag.fr frh59 rfl) Ln_h43
          show wp l rho (d + 7) 118 76 [(2, 0), (0, x1), (0, x2), (0, x3), (0, x4), (0, x5), (0, x6), (0, v34), (0, v35), (0, v36), (0, v37), (9, 0), (9, 0)] [(0, 0)] h59 Q
          refine w_ifne (t := 81) gz_118_76 rfl (fun u72 => by exfalso; omega) (fun u72 => ?_)
          refine w_iconst gz_118_79 (by decide) ?_
          exact w_iret gz_118_80 gm_118 (k0 h59 (gh59) Ln_h59)
        ·
          have gh60 : my_fr [(2, 11), (2, 12), (2, 13), (2, 14), (2, 15), (2, 16), (7, 0), (7, 1), (7, 2), (7, 3), (7, 4), (7, 5), (8, 0), (8, 1), (30, -1), (31, -1), (41, -1), (42, -1), (43, -1), (44, -1)] h h60 := my_fr.tr gh43 (frh60.mo rfl)
          have Ln_h60 : Ln h60 := Ln_ag (my_ag.fr frh60 rfl) Ln_h43
          show wp l rho (d + 7) 118 76 [(2, 0), (0, x1), (0, x2), (0, x3), (0, x4), (0, x5), (0, x6), (0, v34), (0, v35), (0, v36), (0, v37), (9, 0), (9, 0)] [(0, 1)] h60 Q
          refine w_ifne (t := 81) gz_118_76 rfl (fun u73 => ?_) (fun u73 => by exfalso; omega)
          refine w_aload_n gz_118_81 rfl ?_
          refine w_getX (v := 145) gz_118_82 is_0 rd_9 rfl (by decide) rfl ?_
          refine w_aload_n gz_118_85 rfl ?_
          refine w_getX (v := 7) gz_118_86 is_0 rd_9 rfl (by decide) rfl ?_
          refine w_inv (k := 0) (as := [(2, 7)]) (r := []) (x := 145) (ls0 := [(2, 145), (2, 7)]) gz_118_89 gm_25 rfl is_145 rd_6 rfl rfl rfl rfl rfl ?_
          refine w_aload_n gz_25_0 rfl ?_
          refine w_getX (v := 8) gz_25_1 is_7 rd_6 rfl (by decide) rfl ?_
          refine w_iconst gz_25_4 (by decide) ?_
          refine w_aload_n gz_25_5 rfl ?_
          refine w_getX (v := 146) gz_25_6 is_145 rd_6 rfl (by decide) rfl ?_
          refine w_iconst gz_25_9 (by decide) ?_
          refine w_aload_n gz_25_10 rfl ?_
          refine w_getX (v := 146) gz_25_11 is_145 rd_6 rfl (by decide) rfl ?_
          refine v_alen (j := 240) gz_25_14 rfl is_146 rd_30 (by decide) ?_
          refine w_cpU gz_25_15 is_8 rd_30 is_146 rd_30 (by omega) (by omega) (by omega) (by omega) (by omega) rfl (by decide) (by decide) (fun h79 fh79 => ?_)
          have gh79 : my_fr [(2, 11), (2, 12), (2, 13), (2, 14), (2, 15), (2, 16), (7, 0), (7, 1), (7, 2), (7, 3), (7, 4), (7, 5), (8, 0), (8, 1), (30, -1), (31, -1), (41, -1), (42, -1), (43, -1), (44, -1)] h h79 := my_fr.cp gh60 is_146 fh79 rfl
          have Ln_h79 : Ln h79 := Ln_ag (my_ag.cp fh79 is_146 rfl) Ln_h60
          refine w_aload_n gz_25_18 rfl ?_
          refine w_getX (v := 9) gz_25_19 is_7 rd_6 rfl (by decide) rfl ?_
          refine w_iconst gz_25_22 (by decide) ?_
          refine w_aload_n gz_25_23 rfl ?_
          refine w_getX (v := 147) gz_25_24 is_145 rd_6 rfl (by decide) rfl ?_
          refine w_iconst gz_25_27 (by decide) ?_
          refine w_aload_n gz_25_28 rfl ?_
          refine w_getX (v := 147) gz_25_29 is_145 rd_6 rfl (by decide) rfl ?_
          refine v_alen (j := 3) gz_25_32 rfl is_147 rd_31 (by decide) ?_
          refine w_cpU gz_25_33 is_9 rd_31 is_147 rd_31 (by omega) (by omega) (by omega) (by omega) (by omega) rfl (by decide) (by decide) (fun h83 fh83 => ?_)
          have gh83 : my_fr [(2, 11), (2, 12), (2, 13), (2, 14), (2, 15), (2, 16), (7, 0), (7, 1), (7, 2), (7, 3), (7, 4), (7, 5), (8, 0), (8, 1), (30, -1), (31, -1), (41, -1), (42, -1), (43, -1), (44, -1)] h h83 := my_fr.cp gh79 is_147 fh83 rfl
          have Ln_h83 : Ln h83 := Ln_ag (my_ag.cp fh83 is_147 rfl) Ln_h79
          refine w_vret gz_25_36 gm_25 ?_
          show wp l rho (d + 7) 118 92 [(2, 0), (0, x1), (0, x2), (0, x3), (0, x4), (0, x5), (0, x6), (0, v34), (0, v35), (0, v36), (0, v37), (9, 0), (9, 0)] [] h83 Q
          refine w_aload_n gz_118_92 rfl ?_
          refine w_getX (v := 148) gz_118_93 is_0 rd_9 rfl (by decide) rfl ?_
          refine w_aload_n gz_118_96 rfl ?_
          refine w_getX (v := 7) gz_118_97 is_0 rd_9 rfl (by decide) rfl ?_
          refine w_inv (k := 0) (as := [(2, 7)]) (r := []) (x := 148) (ls0 := [(2, 148), (2, 7)]) gz_118_100 gm_25 rfl is_148 rd_6 rfl rfl rfl rfl rfl ?_
          refine w_aload_n gz_25_0 rfl ?_
          refine w_getX (v := 8) gz_25_1 is_7 rd_6 rfl (by decide) rfl ?_
          refine w_iconst gz_25_4 (by decide) ?_
          refine w_aload_n gz_25_5 rfl ?_
          refine w_getX (v := 149) gz_25_6 is_148 rd_6 rfl (by decide) rfl ?_
          refine w_iconst gz_25_9 (by decide) ?_
          refine w_aload_n gz_25_10 rfl ?_
          refine w_getX (v := 149) gz_25_11 is_148 rd_6 rfl (by decide) rfl ?_
          refine v_alen (j := 240) gz_25_14 rfl is_149 rd_30 (by decide) ?_
          refine w_cpU gz_25_15 is_8 rd_30 is_149 rd_30 (by omega) (by omega) (by omega) (by omega) (by omega) rfl (by decide) (by decide) (fun h89 fh89 => ?_)
          have gh89 : my_fr [(2, 11), (2, 12), (2, 13), (2, 14), (2, 15), (2, 16), (7, 0), (7, 1), (7, 2), (7, 3), (7, 4), (7, 5), (8, 0), (8, 1), (30, -1), (31, -1), (41, -1), (42, -1), (43, -1), (44, -1)] h h89 := my_fr.cp gh83 is_149 fh89 rfl
          have Ln_h89 : Ln h89 := Ln_ag (my_ag.cp fh89 is_149 rfl) Ln_h83
          refine w_aload_n gz_25_18 rfl ?_
          refine w_getX (v := 9) gz_25_19 is_7 rd_6 rfl (by decide) rfl ?_
          refine w_iconst gz_25_22 (by decide) ?_
          refine w_aload_n gz_25_23 rfl ?_
          refine w_getX (v := 150) gz_25_24 is_148 rd_6 rfl (by decide) rfl ?_
          refine w_iconst gz_25_27 (by decide) ?_
          refine w_aload_n gz_25_28 rfl ?_
          refine w_getX (v := 150) gz_25_29 is_148 rd_6 rfl (by decide) rfl ?_
          refine v_alen (j := 3) gz_25_32 rfl is_150 rd_31 (by decide) ?_
          refine w_cpU gz_25_33 is_9 rd_31 is_150 rd_31 (by omega) (by omega) (by omega) (by omega) (by omega) rfl (by decide) (by decide) (fun h93 fh93 => ?_)
          have gh93 : my_fr [(2, 11), (2, 12), (2, 13), (2, 14), (2, 15), (2, 16), (7, 0), (7, 1), (7, 2), (7, 3), (7, 4), (7, 5), (8, 0), (8, 1), (30, -1), (31, -1), (41, -1), (42, -1), (43, -1), (44, -1)] h h93 := my_fr.cp gh89 is_150 fh93 rfl
          have Ln_h93 : Ln h93 := Ln_ag (my_ag.cp fh93 is_150 rfl) Ln_h89
          refine w_vret gz_25_36 gm_25 ?_
          show wp l rho (d + 7) 118 103 [(2, 0), (0, x1), (0, x2), (0, x3), (0, x4), (0, x5), (0, x6), (0, v34), (0, v35), (0, v36), (0, v37), (9, 0), (9, 0)] [] h93 Q
          refine w_aload_n gz_118_103 rfl ?_
          refine w_getX (v := 94) gz_118_104 is_0 rd_9 rfl (by decide) rfl ?_
          refine w_aload_n gz_118_107 rfl ?_
          refine w_getX (v := 145) gz_118_108 is_0 rd_9 rfl (by decide) rfl ?_
          refine w_iload_n gz_118_111 rfl ?_
          refine w_iconst gz_118_112 (by decide) ?_
          refine w_iload gz_118_113 rfl ?_
          refine w_iload gz_118_115 rfl ?_
          refine w_iload_n gz_118_117 rfl ?_
          refine w_inv (k := 0) (as := [(0, x3), (0, v35), (0, v34), (0, 0), (0, x1), (2, 145)]) (r := []) (x := 94) (ls0 := [(2, 94), (2, 145), (0, x1), (0, 0), (0, v34), (0, v35), (0, x3)]) gz_118_118 gm_114 rfl is_94 rd_2 rfl rfl rfl rfl rfl (c_Desk_putOn (d := d) (x1 := 145) (x2 := x1) (x3 := 0) (x4 := v34) (x5 := v35) (x6 := x3) is_145 Ln_h93 (fun h96 frh96 => ?_) (fun h97 v98 frh97 w99 w100 w101 w102 w103 => ?_))
          ·
            have gh96 : my_fr [(2, 11), (2, 12), (2, 13), (2, 14), (2, 15), (2, 16), (7, 0), (7, 1), (7, 2), (7, 3), (7, 4), (7, 5), (8, 0), (8, 1), (30, -1), (31, -1), (41, -1), (42, -1), (43, -1), (44, -1)] h h96 := my_fr.tr gh93 (frh96.mo rfl)
            have Ln_h96 : Ln h96 := Ln_ag (my_ag.fr frh96 rfl) Ln_h93
            show wp l rho (d + 7) 118 121 [(2, 0), (0, x1), (0, x2), (0, x3), (0, x4), (0, x5), (0, x6), (0, v34), (0, v35), (0, v36), (0, v37), (9, 0), (9, 0)] [(0, (-1))] h96 Q
            refine w_iconst gz_118_121 (by decide) ?_
            refine w_iceq (t := 153) gz_118_122 rfl (fun u104 => ?_) (fun u104 => by exfalso; omega)
            exact J153_0 (v34) (v35) (v36) (v37) h96 (gh96) (by omega) (by omega) (by omega) (by omega) (by omega) (by omega) Ln_h96
          ·
            have gh97 : my_fr [(2, 11), (2, 12), (2, 13), (2, 14), (2, 15), (2, 16), (7, 0), (7, 1), (7, 2), (7, 3), (7, 4), (7, 5), (8, 0), (8, 1), (30, -1), (31, -1), (41, -1), (42, -1), (43, -1), (44, -1)] h h97 := my_fr.tr gh93 (frh97.mo rfl)
            have Ln_h97 : Ln h97 := Ln_ag (my_ag.fr frh97 rfl) Ln_h93
            show wp l rho (d + 7) 118 121 [(2, 0), (0, x1), (0, x2), (0, x3), (0, x4), (0, x5), (0, x6), (0, v34), (0, v35), (0, v36), (0, v37), (9, 0), (9, 0)] [(0, v98)] h97 Q
            refine w_iconst gz_118_121 (by decide) ?_
            refine w_iceq (t := 153) gz_118_122 rfl (fun u105 => ?_) (fun u105 => ?_)
            ·
              exact J153_0 (v34) (v35) (v36) (v37) h97 (gh97) (by omega) (by omega) (by omega) (by omega) (by omega) (by omega) Ln_h97
            ·
              refine w_aload_n gz_118_125 rfl ?_
              refine w_getX (v := 94) gz_118_126 is_0 rd_9 rfl (by decide) rfl ?_
              refine w_aload_n gz_118_129 rfl ?_
              refine w_getX (v := 145) gz_118_130 is_0 rd_9 rfl (by decide) rfl ?_
              refine w_iload gz_118_133 rfl ?_
              refine w_iconst gz_118_135 (by decide) ?_
              refine w_iload gz_118_136 rfl ?_
              refine w_iload gz_118_138 rfl ?_
              refine w_iload gz_118_140 rfl ?_
              refine w_inv (k := 0) (as := [(0, x6), (0, v37), (0, v36), (0, 0), (0, x4), (2, 145)]) (r := []) (x := 94) (ls0 := [(2, 94), (2, 145), (0, x4), (0, 0), (0, v36), (0, v37), (0, x6)]) gz_118_142 gm_114 rfl is_94 rd_2 rfl rfl rfl rfl rfl (c_Desk_putOn (d := d) (x1 := 145) (x2 := x4) (x3 := 0) (x4 := v36) (x5 := v37) (x6 := x6) is_145 Ln_h97 (fun h108 frh108 => ?_) (fun h109 v110 frh109 w111 w112 w113 w114 w115 => ?_))
              ·
                have gh108 : my_fr [(2, 11), (2, 12), (2, 13), (2, 14), (2, 15), (2, 16), (7, 0), (7, 1), (7, 2), (7, 3), (7, 4), (7, 5), (8, 0), (8, 1), (30, -1), (31, -1), (41, -1), (42, -1), (43, -1), (44, -1)] h h108 := my_fr.tr gh97 (frh108.mo rfl)
                have Ln_h108 : Ln h108 := Ln_ag (my_ag.fr frh108 rfl) Ln_h97
                show wp l rho (d + 7) 118 145 [(2, 0), (0, x1), (0, x2), (0, x3), (0, x4), (0, x5), (0, x6), (0, v34), (0, v35), (0, v36), (0, v37), (9, 0), (9, 0)] [(0, (-1))] h108 Q
                refine w_iconst gz_118_145 (by decide) ?_
                refine w_iceq (t := 153) gz_118_146 rfl (fun u116 => ?_) (fun u116 => by exfalso; omega)
                exact J153_0 (v34) (v35) (v36) (v37) h108 (gh108) (by omega) (by omega) (by omega) (by omega) (by omega) (by omega) Ln_h108
              ·
                have gh109 : my_fr [(2, 11), (2, 12), (2, 13), (2, 14), (2, 15), (2, 16), (7, 0), (7, 1), (7, 2), (7, 3), (7, 4), (7, 5), (8, 0), (8, 1), (30, -1), (31, -1), (41, -1), (42, -1), (43, -1), (44, -1)] h h109 := my_fr.tr gh97 (frh109.mo rfl)
                have Ln_h109 : Ln h109 := Ln_ag (my_ag.fr frh109 rfl) Ln_h97
                show wp l rho (d + 7) 118 145 [(2, 0), (0, x1), (0, x2), (0, x3), (0, x4), (0, x5), (0, x6), (0, v34), (0, v35), (0, v36), (0, v37), (9, 0), (9, 0)] [(0, v110)] h109 Q
                refine w_iconst gz_118_145 (by decide) ?_
                refine w_iceq (t := 153) gz_118_146 rfl (fun u117 => ?_) (fun u117 => ?_)
                ·
                  exact J153_0 (v34) (v35) (v36) (v37) h109 (gh109) (by omega) (by omega) (by omega) (by omega) (by omega) (by omega) Ln_h109
                ·
                  refine w_iconst gz_118_149 (by decide) ?_
                  refine w_goto (t := 154) gz_118_150 rfl ?_
                  refine w_istore (ls' := [(2, 0), (0, x1), (0, x2), (0, x3), (0, x4), (0, x5), (0, x6), (0, v34), (0, v35), (0, v36), (0, v37), (0, 1), (9, 0)]) gz_118_154 gm_118 rfl rfl rfl ?_
                  refine w_aload_n gz_118_156 rfl ?_
                  refine w_getX (v := 94) gz_118_157 is_0 rd_9 rfl (by decide) rfl ?_
                  refine w_aload_n gz_118_160 rfl ?_
                  refine w_getX (v := 148) gz_118_161 is_0 rd_9 rfl (by decide) rfl ?_
                  refine w_iload gz_118_164 rfl ?_
                  refine w_iconst gz_118_166 (by decide) ?_
                  refine w_iload gz_118_167 rfl ?_
                  refine w_iload gz_118_169 rfl ?_
                  refine w_iload gz_118_171 rfl ?_
                  refine w_inv (k := 0) (as := [(0, x6), (0, v37), (0, v36), (0, 0), (0, x4), (2, 148)]) (r := []) (x := 94) (ls0 := [(2, 94), (2, 148), (0, x4), (0, 0), (0, v36), (0, v37), (0, x6)]) gz_118_173 gm_114 rfl is_94 rd_2 rfl rfl rfl rfl rfl (c_Desk_putOn (d := d) (x1 := 148) (x2 := x4) (x3 := 0) (x4 := v36) (x5 := v37) (x6 := x6) is_148 Ln_h109 (fun h120 frh120 => ?_) (fun h121 v122 frh121 w123 w124 w125 w126 w127 => ?_))
                  ·
                    have gh120 : my_fr [(2, 11), (2, 12), (2, 13), (2, 14), (2, 15), (2, 16), (7, 0), (7, 1), (7, 2), (7, 3), (7, 4), (7, 5), (8, 0), (8, 1), (30, -1), (31, -1), (41, -1), (42, -1), (43, -1), (44, -1)] h h120 := my_fr.tr gh109 (frh120.mo rfl)
                    have Ln_h120 : Ln h120 := Ln_ag (my_ag.fr frh120 rfl) Ln_h109
                    show wp l rho (d + 7) 118 176 [(2, 0), (0, x1), (0, x2), (0, x3), (0, x4), (0, x5), (0, x6), (0, v34), (0, v35), (0, v36), (0, v37), (0, 1), (9, 0)] [(0, (-1))] h120 Q
                    refine w_iconst gz_118_176 (by decide) ?_
                    refine w_iceq (t := 206) gz_118_177 rfl (fun u128 => ?_) (fun u128 => by exfalso; omega)
                    exact J206_1 (v34) (v35) (v36) (v37) h120 (gh120) (by omega) (by omega) (by omega) (by omega) (by omega) (by omega) Ln_h120
                  ·
                    have gh121 : my_fr [(2, 11), (2, 12), (2, 13), (2, 14), (2, 15), (2, 16), (7, 0), (7, 1), (7, 2), (7, 3), (7, 4), (7, 5), (8, 0), (8, 1), (30, -1), (31, -1), (41, -1), (42, -1), (43, -1), (44, -1)] h h121 := my_fr.tr gh109 (frh121.mo rfl)
                    have Ln_h121 : Ln h121 := Ln_ag (my_ag.fr frh121 rfl) Ln_h109
                    show wp l rho (d + 7) 118 176 [(2, 0), (0, x1), (0, x2), (0, x3), (0, x4), (0, x5), (0, x6), (0, v34), (0, v35), (0, v36), (0, v37), (0, 1), (9, 0)] [(0, v122)] h121 Q
                    refine w_iconst gz_118_176 (by decide) ?_
                    refine w_iceq (t := 206) gz_118_177 rfl (fun u129 => ?_) (fun u129 => ?_)
                    ·
                      exact J206_1 (v34) (v35) (v36) (v37) h121 (gh121) (by omega) (by omega) (by omega) (by omega) (by omega) (by omega) Ln_h121
                    ·
                      refine w_aload_n gz_118_180 rfl ?_
                      refine w_getX (v := 94) gz_118_181 is_0 rd_9 rfl (by decide) rfl ?_
                      refine w_aload_n gz_118_184 rfl ?_
                      refine w_getX (v := 148) gz_118_185 is_0 rd_9 rfl (by decide) rfl ?_
                      refine w_iload_n gz_118_188 rfl ?_
                      refine w_iconst gz_118_189 (by decide) ?_
                      refine w_iload gz_118_190 rfl ?_
                      refine w_iload gz_118_192 rfl ?_
                      refine w_iload_n gz_118_194 rfl ?_
                      refine w_inv (k := 0) (as := [(0, x3), (0, v35), (0, v34), (0, 0), (0, x1), (2, 148)]) (r := []) (x := 94) (ls0 := [(2, 94), (2, 148), (0, x1), (0, 0), (0, v34), (0, v35), (0, x3)]) gz_118_195 gm_114 rfl is_94 rd_2 rfl rfl rfl rfl rfl (c_Desk_putOn (d := d) (x1 := 148) (x2 := x1) (x3 := 0) (x4 := v34) (x5 := v35) (x6 := x3) is_148 Ln_h121 (fun h132 frh132 => ?_) (fun h133 v134 frh133 w135 w136 w137 w138 w139 => ?_))
                      ·
                        have gh132 : my_fr [(2, 11), (2, 12), (2, 13), (2, 14), (2, 15), (2, 16), (7, 0), (7, 1), (7, 2), (7, 3), (7, 4), (7, 5), (8, 0), (8, 1), (30, -1), (31, -1), (41, -1), (42, -1), (43, -1), (44, -1)] h h132 := my_fr.tr gh121 (frh132.mo rfl)
                        have Ln_h132 : Ln h132 := Ln_ag (my_ag.fr frh132 rfl) Ln_h121
                        show wp l rho (d + 7) 118 198 [(2, 0), (0, x1), (0, x2), (0, x3), (0, x4), (0, x5), (0, x6), (0, v34), (0, v35), (0, v36), (0, v37), (0, 1), (9, 0)] [(0, (-1))] h132 Q
                        refine w_iconst gz_118_198 (by decide) ?_
                        refine w_iceq (t := 206) gz_118_199 rfl (fun u140 => ?_) (fun u140 => by exfalso; omega)
                        exact J206_1 (v34) (v35) (v36) (v37) h132 (gh132) (by omega) (by omega) (by omega) (by omega) (by omega) (by omega) Ln_h132
                      ·
                        have gh133 : my_fr [(2, 11), (2, 12), (2, 13), (2, 14), (2, 15), (2, 16), (7, 0), (7, 1), (7, 2), (7, 3), (7, 4), (7, 5), (8, 0), (8, 1), (30, -1), (31, -1), (41, -1), (42, -1), (43, -1), (44, -1)] h h133 := my_fr.tr gh121 (frh133.mo rfl)
                        have Ln_h133 : Ln h133 := Ln_ag (my_ag.fr frh133 rfl) Ln_h121
                        show wp l rho (d + 7) 118 198 [(2, 0), (0, x1), (0, x2), (0, x3), (0, x4), (0, x5), (0, x6), (0, v34), (0, v35), (0, v36), (0, v37), (0, 1), (9, 0)] [(0, v134)] h133 Q
                        refine w_iconst gz_118_198 (by decide) ?_
                        refine w_iceq (t := 206) gz_118_199 rfl (fun u141 => ?_) (fun u141 => ?_)
                        ·
                          exact J206_1 (v34) (v35) (v36) (v37) h133 (gh133) (by omega) (by omega) (by omega) (by omega) (by omega) (by omega) Ln_h133
                        ·
                          refine w_iconst gz_118_202 (by decide) ?_
                          refine w_goto (t := 207) gz_118_203 rfl ?_
                          refine w_istore (ls' := [(2, 0), (0, x1), (0, x2), (0, x3), (0, x4), (0, x5), (0, x6), (0, v34), (0, v35), (0, v36), (0, v37), (0, 1), (0, 1)]) gz_118_207 gm_118 rfl rfl rfl ?_
                          refine w_iload gz_118_209 rfl ?_
                          refine w_ifeq (t := 239) gz_118_211 rfl (fun u142 => by exfalso; omega) (fun u142 => ?_)
                          refine w_iload gz_118_214 rfl ?_
                          refine w_ifeq (t := 239) gz_118_216 rfl (fun u143 => by exfalso; omega) (fun u143 => ?_)
                          refine w_aload_n gz_118_219 rfl ?_
                          refine w_getX (v := 145) gz_118_220 is_0 rd_9 rfl (by decide) rfl ?_
                          refine w_aload_n gz_118_223 rfl ?_
                          refine w_getX (v := 148) gz_118_224 is_0 rd_9 rfl (by decide) rfl ?_
                          refine w_inv (k := 1) (as := [(2, 148)]) (r := []) (x := 145) (ls0 := [(2, 145), (2, 148), (9, 0)]) gz_118_227 gm_116 rfl is_145 rd_6 rfl rfl rfl rfl rfl (c_Rows_same (d := (d + 6)) (x0 := 145) (x1 := 148) is_145 is_148 ?_ ?_)
                          ·
                            show wp l rho (d + 7) 118 230 [(2, 0), (0, x1), (0, x2), (0, x3), (0, x4), (0, x5), (0, x6), (0, v34), (0, v35), (0, v36), (0, v37), (0, 1), (0, 1)] [(0, 0)] h133 Q
                            refine w_ifeq (t := 237) gz_118_230 rfl (fun u146 => ?_) (fun u146 => by exfalso; omega)
                            refine w_iconst gz_118_237 (by decide) ?_
                            exact w_iret gz_118_238 gm_118 (k2 h133 (gh133) (by omega) (by omega) (by omega) (by omega) (by omega) (by omega) Ln_h133)
                          ·
                            show wp l rho (d + 7) 118 230 [(2, 0), (0, x1), (0, x2), (0, x3), (0, x4), (0, x5), (0, x6), (0, v34), (0, v35), (0, v36), (0, v37), (0, 1), (0, 1)] [(0, 1)] h133 Q
                            refine w_ifeq (t := 237) gz_118_230 rfl (fun u147 => by exfalso; omega) (fun u147 => ?_)
                            refine w_iconst gz_118_233 (by decide) ?_
                            refine w_goto (t := 238) gz_118_234 rfl ?_
                            exact w_iret gz_118_238 gm_118 (k1 h133 (gh133) (by omega) (by omega) (by omega) (by omega) (by omega) (by omega) Ln_h133)
theorem c_ThroughWindow_fits {l : Launch} {rho : Nat → Int32} {d : Nat} {h : my_H} {Q : my_H → my_V → Prop} {x1 x2 : Int} (n_Ln : Ln h) (k0 : ∀ (h' : my_H), my_fr [(8, 0), (8, 1), (42, -1), (43, -1), (44, -1), (45, -1)] h h' → Ln h' → Q h' (0, (-1))) (k1 : ∀ (h' : my_H), my_fr [(8, 0), (8, 1), (42, -1), (43, -1), (44, -1), (45, -1)] h h' → 0 ≤ x1 → x1 ≤ 5 → 0 ≤ x2 → x2 ≤ 2 → Ln h' → Q h' (0, 0)) (k2 : ∀ (h' : my_H) (y : Int), my_fr [(8, 0), (8, 1), (42, -1), (43, -1), (44, -1), (45, -1)] h h' → 0 ≤ x1 → x1 ≤ 5 → 0 ≤ x2 → x2 ≤ 2 → Ln h' → Q h' (0, y)) : wp l rho (d + 5) 119 0 [(2, 0), (0, x1), (0, x2)] [] h Q := by
  refine w_aload_n gz_119_0 rfl ?_
  refine w_getX (v := 1) gz_119_1 is_0 rd_9 rfl (by decide) rfl ?_
  refine w_iload_n gz_119_4 rfl ?_
  refine w_inv (k := 0) (as := [(0, x2)]) (r := []) (x := 1) (ls0 := [(2, 1), (0, x2)]) gz_119_5 gm_13 rfl is_1 rd_3 rfl rfl rfl rfl rfl ?_
  refine w_iload_n gz_13_0 rfl ?_
  refine w_iflt (t := 22) gz_13_1 rfl (fun u2 => ?_) (fun u2 => ?_)
  ·
    refine w_iconst gz_13_22 (by decide) ?_
    refine w_bret gz_13_23 gm_13 (by omega) (by omega) ?_
    show wp l rho (d + 5) 119 8 [(2, 0), (0, x1), (0, x2)] [(0, 0)] h Q
    refine w_ifeq (t := 26) gz_119_8 rfl (fun u3 => ?_) (fun u3 => by exfalso; omega)
    refine w_iconst gz_119_26 (by decide) ?_
    exact w_iret gz_119_27 gm_119 (k0 h (my_fr.rf) n_Ln)
  ·
    refine w_iload_n gz_13_4 rfl ?_
    refine w_iconst gz_13_5 (by decide) ?_
    refine w_icge (t := 22) gz_13_6 rfl (fun u4 => ?_) (fun u4 => ?_)
    ·
      refine w_iconst gz_13_22 (by decide) ?_
      refine w_bret gz_13_23 gm_13 (by omega) (by omega) ?_
      show wp l rho (d + 5) 119 8 [(2, 0), (0, x1), (0, x2)] [(0, 0)] h Q
      refine w_ifeq (t := 26) gz_119_8 rfl (fun u5 => ?_) (fun u5 => by exfalso; omega)
      refine w_iconst gz_119_26 (by decide) ?_
      exact w_iret gz_119_27 gm_119 (k0 h (my_fr.rf) n_Ln)
    ·
      refine w_aload_n gz_13_9 rfl ?_
      refine w_getX (v := 2) gz_13_10 is_1 rd_3 rfl (by decide) rfl ?_
      refine w_iload_n gz_13_13 rfl ?_
      refine w_iald gz_13_14 is_2 rd_25 (by omega) (by omega) (fun v7 ev7 pv7 qv7 => ?_)
      refine w_ifle (t := 22) gz_13_15 rfl (fun u8 => ?_) (fun u8 => ?_)
      ·
        refine w_iconst gz_13_22 (by decide) ?_
        refine w_bret gz_13_23 gm_13 (by omega) (by omega) ?_
        show wp l rho (d + 5) 119 8 [(2, 0), (0, x1), (0, x2)] [(0, 0)] h Q
        refine w_ifeq (t := 26) gz_119_8 rfl (fun u9 => ?_) (fun u9 => by exfalso; omega)
        refine w_iconst gz_119_26 (by decide) ?_
        exact w_iret gz_119_27 gm_119 (k0 h (my_fr.rf) n_Ln)
      ·
        refine w_iconst gz_13_18 (by decide) ?_
        refine w_goto (t := 23) gz_13_19 rfl ?_
        refine w_bret gz_13_23 gm_13 (by omega) (by omega) ?_
        show wp l rho (d + 5) 119 8 [(2, 0), (0, x1), (0, x2)] [(0, 1)] h Q
        refine w_ifeq (t := 26) gz_119_8 rfl (fun u10 => by exfalso; omega) (fun u10 => ?_)
        refine w_aload_n gz_119_11 rfl ?_
        refine w_getX (v := 94) gz_119_12 is_0 rd_9 rfl (by decide) rfl ?_
        refine w_aload_n gz_119_15 rfl ?_
        refine w_getX (v := 7) gz_119_16 is_0 rd_9 rfl (by decide) rfl ?_
        refine w_iload_n gz_119_19 rfl ?_
        refine w_inv (k := 0) (as := [(0, x1), (2, 7)]) (r := []) (x := 94) (ls0 := [(2, 94), (2, 7), (0, x1)]) gz_119_20 gm_65 rfl is_94 rd_2 rfl rfl rfl rfl rfl (c_Desk_looks (d := d) (x1 := 7) (x2 := x1) is_7 n_Ln (fun h13 frh13 => ?_) (fun h14 frh14 w15 w16 xp17 xp18 => ?_))
        ·
          have gh13 : my_fr [(8, 0), (8, 1), (42, -1), (43, -1), (44, -1), (45, -1)] h h13 := my_fr.tr my_fr.rf (frh13.mo rfl)
          have Ln_h13 : Ln h13 := Ln_ag (my_ag.fr frh13 rfl) n_Ln
          show wp l rho (d + 5) 119 23 [(2, 0), (0, x1), (0, x2)] [(0, 0)] h13 Q
          refine w_ifne (t := 28) gz_119_23 rfl (fun u19 => by exfalso; omega) (fun u19 => ?_)
          refine w_iconst gz_119_26 (by decide) ?_
          exact w_iret gz_119_27 gm_119 (k0 h13 (gh13) Ln_h13)
        ·
          have gh14 : my_fr [(8, 0), (8, 1), (42, -1), (43, -1), (44, -1), (45, -1)] h h14 := my_fr.tr my_fr.rf (frh14.mo rfl)
          have Ln_h14 : Ln h14 := Ln_ag (my_ag.fr frh14 rfl) n_Ln
          show wp l rho (d + 5) 119 23 [(2, 0), (0, x1), (0, x2)] [(0, 1)] h14 Q
          refine w_ifne (t := 28) gz_119_23 rfl (fun u20 => ?_) (fun u20 => by exfalso; omega)
          refine w_aload_n gz_119_28 rfl ?_
          refine w_getX (v := 114) gz_119_29 is_0 rd_9 rfl (by decide) rfl ?_
          refine w_aload_n gz_119_32 rfl ?_
          refine w_getX (v := 7) gz_119_33 is_0 rd_9 rfl (by decide) rfl ?_
          refine w_iload_n gz_119_36 rfl ?_
          refine w_aload_n gz_119_37 rfl ?_
          refine w_getX (v := 94) gz_119_38 is_0 rd_9 rfl (by decide) rfl ?_
          refine w_getX (v := 98) gz_119_41 is_94 rd_2 rfl (by decide) rfl ?_
          refine w_inv (k := 7) (as := [(2, 98), (0, x2), (2, 7)]) (r := []) (x := 114) (ls0 := [(2, 114), (2, 7), (0, x2), (2, 98), (9, 0), (9, 0), (9, 0), (9, 0), (9, 0), (9, 0), (9, 0)]) gz_119_44 gm_120 rfl is_114 rd_1 rfl rfl rfl rfl rfl (c_Cutter_countFits (d := d) (x1 := 7) (x2 := x2) is_7 (by omega) (by omega) (fun h25 frh25 => ?_) (fun h26 v27 frh26 => ?_))
          ·
            have gh25 : my_fr [(8, 0), (8, 1), (42, -1), (43, -1), (44, -1), (45, -1)] h h25 := my_fr.tr gh14 (frh25.mo rfl)
            have Ln_h25 : Ln h25 := Ln_ag (my_ag.fr frh25 rfl) Ln_h14
            show wp l rho (d + 5) 119 47 [(2, 0), (0, x1), (0, x2)] [(0, 0)] h25 Q
            exact w_iret gz_119_47 gm_119 (k1 h25 (gh25) (by omega) (by omega) (by omega) (by omega) Ln_h25)
          ·
            have gh26 : my_fr [(8, 0), (8, 1), (42, -1), (43, -1), (44, -1), (45, -1)] h h26 := my_fr.tr gh14 (frh26.mo rfl)
            have Ln_h26 : Ln h26 := Ln_ag (my_ag.fr frh26 rfl) Ln_h14
            show wp l rho (d + 5) 119 47 [(2, 0), (0, x1), (0, x2)] [(0, v27)] h26 Q
            exact w_iret gz_119_47 gm_119 (k2 h26 (v27) (gh26) (by omega) (by omega) (by omega) (by omega) Ln_h26)
theorem c_ThroughWindow_night {l : Launch} {rho : Nat → Int32} {d : Nat} {h : my_H} {Q : my_H → my_V → Prop} {x1 : Int} (n_Ln : Ln h) (k0 : ∀ (h' : my_H), my_fr [(0, 4), (0, 6), (0, 7), (0, 8), (0, 9), (2, 11), (2, 12), (2, 13), (2, 14), (2, 15), (2, 16), (7, 0), (7, 1), (7, 2), (7, 3), (7, 4), (7, 5), (8, 0), (8, 1), (30, -1), (31, -1), (41, -1), (42, -1), (43, -1), (44, -1), (49, -1)] h h' → Ln h' → Q h' (0, (-1))) (k1 : ∀ (h' : my_H) (y : Int), my_fr [(0, 4), (0, 6), (0, 7), (0, 8), (0, 9), (2, 11), (2, 12), (2, 13), (2, 14), (2, 15), (2, 16), (7, 0), (7, 1), (7, 2), (7, 3), (7, 4), (7, 5), (8, 0), (8, 1), (30, -1), (31, -1), (41, -1), (42, -1), (43, -1), (44, -1), (49, -1)] h h' → 0 ≤ x1 → x1 ≤ 3 → Ln h' → Q h' (0, y)) : wp l rho (d + 7) 128 0 [(2, 0), (0, x1), (9, 0), (9, 0), (9, 0), (9, 0), (9, 0), (9, 0)] [] h Q := by
  have J33_0 : ∀ (n : Nat) (p33_0 p33_1 p33_2 p33_3 : Int) (h33_0 : my_H), my_fr [(0, 4), (0, 6), (0, 7), (0, 8), (0, 9), (2, 11), (2, 12), (2, 13), (2, 14), (2, 15), (2, 16), (7, 0), (7, 1), (7, 2), (7, 3), (7, 4), (7, 5), (8, 0), (8, 1), (30, -1), (31, -1), (41, -1), (42, -1), (43, -1), (44, -1), (49, -1)] h h33_0 → 0 ≤ x1 → x1 ≤ 2 → 0 ≤ p33_0 → p33_0 ≤ 6 → 0 ≤ p33_1 → p33_1 ≤ 3 → 1 ≤ p33_2 → p33_2 ≤ 6 → 0 ≤ p33_3 → p33_0 ≤ p33_2 → h33_0 120 4 = p33_1 → h33_0 120 7 = p33_2 → h33_0 120 9 = p33_3 → Ln h33_0 → h33_0 120 6 ≤ p33_0 → 7 - p33_0 ≤ (n : Int) → wp l rho (d + 7) 128 33 [(2, 0), (0, x1), (0, p33_0), (9, 0), (9, 0), (9, 0), (9, 0), (9, 0)] [] h33_0 Q := by
    intro n
    induction n with
    | zero => intro p33_0 p33_1 p33_2 p33_3 h33_0 gh_33_0 q0_33_0 q1_33_0 q2_33_0 q3_33_0 q4_33_0 q5_33_0 q6_33_0 q7_33_0 q8_33_0 q9_33_0 c120_4_33_0 c120_7_33_0 c120_9_33_0 n_Ln_33_0 ec_33_0 hm_33_0; exfalso; omega
    | succ n ih_33_0 =>
      intro p33_0 p33_1 p33_2 p33_3 h33_0 gh_33_0 q0_33_0 q1_33_0 q2_33_0 q3_33_0 q4_33_0 q5_33_0 q6_33_0 q7_33_0 q8_33_0 q9_33_0 c120_4_33_0 c120_7_33_0 c120_9_33_0 n_Ln_33_0 ec_33_0 hm_33_0
      have J60_0 : ∀ (n : Nat) (p60_0 p60_1 : Int) (h60_0 : my_H), my_fr [(0, 4), (0, 6), (0, 7), (0, 8), (0, 9), (2, 11), (2, 12), (2, 13), (2, 14), (2, 15), (2, 16), (7, 0), (7, 1), (7, 2), (7, 3), (7, 4), (7, 5), (8, 0), (8, 1), (30, -1), (31, -1), (41, -1), (42, -1), (43, -1), (44, -1), (49, -1)] h h60_0 → p33_0 ≤ 5 → 0 ≤ p60_0 → p60_0 ≤ 3 → 0 ≤ p60_1 → p60_1 ≤ 3 → p60_0 ≤ p60_1 → p60_0 ≤ p33_1 → p60_1 ≤ p33_1 → p33_0 ≤ (p33_2 - 1) → h60_0 120 4 = p33_1 → h60_0 120 7 = p33_2 → h60_0 120 9 = p33_3 → Ln h60_0 → h60_0 120 6 ≤ p33_0 → 4 - p60_1 ≤ (n : Int) → wp l rho (d + 7) 128 60 [(2, 0), (0, x1), (0, p33_0), (0, p60_0), (0, p60_1), (9, 0), (9, 0), (9, 0)] [] h60_0 Q := by
        intro n
        induction n with
        | zero => intro p60_0 p60_1 h60_0 gh_60_0 q0_60_0 q1_60_0 q2_60_0 q3_60_0 q4_60_0 q5_60_0 q6_60_0 q7_60_0 q8_60_0 c120_4_60_0 c120_7_60_0 c120_9_60_0 n_Ln_60_0 ed_60_0 hm_60_0; exfalso; omega
        | succ n ih_60_0 =>
          intro p60_0 p60_1 h60_0 gh_60_0 q0_60_0 q1_60_0 q2_60_0 q3_60_0 q4_60_0 q5_60_0 q6_60_0 q7_60_0 q8_60_0 c120_4_60_0 c120_7_60_0 c120_9_60_0 n_Ln_60_0 ed_60_0 hm_60_0
          refine w_iload gz_128_60 rfl ?_
          refine w_aload_n gz_128_62 rfl ?_
          refine w_getX (v := 120) gz_128_63 is_0 rd_9 rfl (by decide) rfl ?_
          refine v_getI (j := 4) gz_128_66 rfl is_120 rd_0 rfl (fun v2 ev2 pv2 qv2 => ?_)
          have zv2 := ev2.trans c120_4_60_0
          refine w_icge (t := 163) gz_128_69 rfl (fun u3 => ?_) (fun u3 => ?_)
          ·
            refine w_aload_n gz_128_163 rfl ?_
            refine w_getX (v := 120) gz_128_164 is_0 rd_9 rfl (by decide) rfl ?_
            refine w_aload_n gz_128_167 rfl ?_
            refine w_getX (v := 145) gz_128_168 is_0 rd_9 rfl (by decide) rfl ?_
            refine w_iload_n gz_128_171 rfl ?_
            refine w_inv (k := 1) (as := [(0, p60_0), (2, 145)]) (r := []) (x := 120) (ls0 := [(2, 120), (2, 145), (0, p60_0), (9, 0)]) gz_128_172 gm_131 rfl is_120 rd_0 rfl rfl rfl rfl rfl (c_Clerks_endOrder (d := (d + 4)) (x1 := 145) (x2 := p60_0) is_145 (by omega) (by omega) (by first | assumption | omega | (subst_vars; omega)) (fun h6 frh6 w7 xp8 => ?_))
            have gh6 : my_fr [(0, 4), (0, 6), (0, 7), (0, 8), (0, 9), (2, 11), (2, 12), (2, 13), (2, 14), (2, 15), (2, 16), (7, 0), (7, 1), (7, 2), (7, 3), (7, 4), (7, 5), (8, 0), (8, 1), (30, -1), (31, -1), (41, -1), (42, -1), (43, -1), (44, -1), (49, -1)] h h6 := my_fr.tr gh_60_0 (frh6.mo rfl)
            have Ln_h6 : Ln h6 := Ln_ag (my_ag.fr frh6 rfl) n_Ln_60_0
            show wp l rho (d + 7) 128 175 [(2, 0), (0, x1), (0, p33_0), (0, p60_0), (0, p60_1), (9, 0), (9, 0), (9, 0)] [] h6 Q
            refine w_iinc (ls' := [(2, 0), (0, x1), (0, (p33_0 + 1)), (0, p60_0), (0, p60_1), (9, 0), (9, 0), (9, 0)]) gz_128_175 rfl gm_128 rfl rfl rfl ⟨by omega, by omega⟩ ?_
            refine w_goto (t := 33) gz_128_178 rfl ?_
            refine w_weak (ls' := [(2, 0), (0, x1), (0, (p33_0 + 1)), (9, 0), (9, 0), (9, 0), (9, 0), (9, 0)]) (wk_e (wk_e (wk_e (wk_9 (wk_9 (wk_9 (wk_9 (wk_9 wk_n)))))))) ?_
            exact ih_33_0 ((p33_0 + 1)) (v2) (p33_2) ((h6 120 9)) h6 (gh6) (by omega) (by omega) (by omega) (by omega) (by omega) (by omega) (by omega) (by omega) (by omega) (by omega) (((my_fr.at frh6 is_120 rfl).trans ev2.symm).trans (by omega)) (((my_fr.at frh6 is_120 rfl).trans c120_7_60_0).trans (by omega)) ((rfl : h6 120 9 = h6 120 9).trans (by omega)) Ln_h6 (by omega) (by omega)
          ·
            refine w_aload_n gz_128_72 rfl ?_
            refine w_getX (v := 120) gz_128_73 is_0 rd_9 rfl (by decide) rfl ?_
            refine w_iload_n gz_128_76 rfl ?_
            refine w_iload gz_128_77 rfl ?_
            refine w_inv (k := 0) (as := [(0, p60_1), (0, p33_0)]) (r := []) (x := 120) (ls0 := [(2, 120), (0, p33_0), (0, p60_1)]) gz_128_79 gm_130 rfl is_120 rd_0 rfl rfl rfl rfl rfl (c_Clerks_clerkAt (d := (d + 6)) (x1 := p33_0) (x2 := p60_1) (by omega) (by omega) (by omega) (by omega) (fun v10 w11 w12 => ?_))
            show wp l rho (d + 7) 128 82 [(2, 0), (0, x1), (0, p33_0), (0, p60_0), (0, p60_1), (9, 0), (9, 0), (9, 0)] [(0, v10)] h60_0 Q
            refine w_istore (ls' := [(2, 0), (0, x1), (0, p33_0), (0, p60_0), (0, p60_1), (0, v10), (9, 0), (9, 0)]) gz_128_82 gm_128 rfl rfl rfl ?_
            refine w_aload_n gz_128_84 rfl ?_
            refine w_getX (v := 120) gz_128_85 is_0 rd_9 rfl (by decide) rfl ?_
            refine w_getX (v := 122) gz_128_88 is_120 rd_0 rfl (by decide) rfl ?_
            refine w_iload gz_128_91 rfl ?_
            refine w_iald gz_128_93 is_122 rd_47 (by omega) (by omega) (fun v15 ev15 pv15 qv15 => ?_)
            refine w_bipush gz_128_94 (by decide) ?_
            refine w_idiv gz_128_96 (by omega) (by decide) ?_
            refine w_istore (ls' := [(2, 0), (0, x1), (0, p33_0), (0, p60_0), (0, p60_1), (0, v10), (0, (v15 / 8)), (9, 0)]) gz_128_97 gm_128 rfl rfl rfl ?_
            refine w_aload_n gz_128_99 rfl ?_
            refine w_getX (v := 120) gz_128_100 is_0 rd_9 rfl (by decide) rfl ?_
            refine w_getX (v := 122) gz_128_103 is_120 rd_0 rfl (by decide) rfl ?_
            refine w_iload gz_128_106 rfl ?_
            refine w_iald gz_128_108 is_122 rd_47 (by omega) (by omega) (fun v18 ev18 pv18 qv18 => ?_)
            have zv18 := ev18.trans ev15.symm
            refine w_bipush gz_128_109 (by decide) ?_
            refine w_irem gz_128_111 (by omega) (by decide) ?_
            refine w_istore (ls' := [(2, 0), (0, x1), (0, p33_0), (0, p60_0), (0, p60_1), (0, v10), (0, (v15 / 8)), (0, (v18 % 8))]) gz_128_112 gm_128 rfl rfl rfl ?_
            refine w_aload_n gz_128_114 rfl ?_
            refine w_getX (v := 94) gz_128_115 is_0 rd_9 rfl (by decide) rfl ?_
            refine w_aload_n gz_128_118 rfl ?_
            refine w_getX (v := 145) gz_128_119 is_0 rd_9 rfl (by decide) rfl ?_
            refine w_aload_n gz_128_122 rfl ?_
            refine w_getX (v := 120) gz_128_123 is_0 rd_9 rfl (by decide) rfl ?_
            refine w_getX (v := 121) gz_128_126 is_120 rd_0 rfl (by decide) rfl ?_
            refine w_iload gz_128_129 rfl ?_
            refine w_iald gz_128_131 is_121 rd_46 (by omega) (by omega) (fun v23 ev23 pv23 qv23 => ?_)
            refine w_iconst gz_128_132 (by decide) ?_
            refine w_iload gz_128_133 rfl ?_
            refine w_iload gz_128_135 rfl ?_
            refine w_aload_n gz_128_137 rfl ?_
            refine w_getX (v := 120) gz_128_138 is_0 rd_9 rfl (by decide) rfl ?_
            refine w_getX (v := 123) gz_128_141 is_120 rd_0 rfl (by decide) rfl ?_
            refine w_iload gz_128_144 rfl ?_
            refine w_iald gz_128_146 is_123 rd_48 (by omega) (by omega) (fun v26 ev26 pv26 qv26 => ?_)
            refine w_inv (k := 0) (as := [(0, v26), (0, (v18 % 8)), (0, (v15 / 8)), (0, 0), (0, v23), (2, 145)]) (r := []) (x := 94) (ls0 := [(2, 94), (2, 145), (0, v23), (0, 0), (0, (v15 / 8)), (0, (v18 % 8)), (0, v26)]) gz_128_147 gm_114 rfl is_94 rd_2 rfl rfl rfl rfl rfl (c_Desk_putOn (d := d) (x1 := 145) (x2 := v23) (x3 := 0) (x4 := (v15 / 8)) (x5 := (v18 % 8)) (x6 := v26) is_145 n_Ln_60_0 (fun h27 frh27 => ?_) (fun h28 v29 frh28 w30 w31 w32 w33 w34 => ?_))
            ·
              have gh27 : my_fr [(0, 4), (0, 6), (0, 7), (0, 8), (0, 9), (2, 11), (2, 12), (2, 13), (2, 14), (2, 15), (2, 16), (7, 0), (7, 1), (7, 2), (7, 3), (7, 4), (7, 5), (8, 0), (8, 1), (30, -1), (31, -1), (41, -1), (42, -1), (43, -1), (44, -1), (49, -1)] h h27 := my_fr.tr gh_60_0 (frh27.mo rfl)
              have Ln_h27 : Ln h27 := Ln_ag (my_ag.fr frh27 rfl) n_Ln_60_0
              show wp l rho (d + 7) 128 150 [(2, 0), (0, x1), (0, p33_0), (0, p60_0), (0, p60_1), (0, v10), (0, (v15 / 8)), (0, (v18 % 8))] [(0, (-1))] h27 Q
              refine w_iconst gz_128_150 (by decide) ?_
              refine w_iceq (t := 157) gz_128_151 rfl (fun u35 => ?_) (fun u35 => by exfalso; omega)
              refine w_iinc (ls' := [(2, 0), (0, x1), (0, p33_0), (0, p60_0), (0, (p60_1 + 1)), (0, v10), (0, (v15 / 8)), (0, (v18 % 8))]) gz_128_157 rfl gm_128 rfl rfl rfl ⟨by omega, by omega⟩ ?_
              refine w_goto (t := 60) gz_128_160 rfl ?_
              have ce36 : h27 120 6 = h60_0 120 6 := ((my_fr.at frh27 is_120 rfl).trans (rfl : h60_0 120 6 = h60_0 120 6))
              refine w_weak (ls' := [(2, 0), (0, x1), (0, p33_0), (0, p60_0), (0, (p60_1 + 1)), (9, 0), (9, 0), (9, 0)]) (wk_e (wk_e (wk_e (wk_e (wk_e (wk_9 (wk_9 (wk_9 wk_n)))))))) ?_
              exact ih_60_0 (p60_0) ((p60_1 + 1)) h27 (gh27) (by omega) (by omega) (by omega) (by omega) (by omega) (by omega) (by omega) (by omega) (by omega) (((my_fr.at frh27 is_120 rfl).trans ev2.symm).trans (by omega)) (((my_fr.at frh27 is_120 rfl).trans c120_7_60_0).trans (by omega)) (((my_fr.at frh27 is_120 rfl).trans c120_9_60_0).trans (by omega)) Ln_h27 (by omega) (by omega)
            ·
              have gh28 : my_fr [(0, 4), (0, 6), (0, 7), (0, 8), (0, 9), (2, 11), (2, 12), (2, 13), (2, 14), (2, 15), (2, 16), (7, 0), (7, 1), (7, 2), (7, 3), (7, 4), (7, 5), (8, 0), (8, 1), (30, -1), (31, -1), (41, -1), (42, -1), (43, -1), (44, -1), (49, -1)] h h28 := my_fr.tr gh_60_0 (frh28.mo rfl)
              have Ln_h28 : Ln h28 := Ln_ag (my_ag.fr frh28 rfl) n_Ln_60_0
              show wp l rho (d + 7) 128 150 [(2, 0), (0, x1), (0, p33_0), (0, p60_0), (0, p60_1), (0, v10), (0, (v15 / 8)), (0, (v18 % 8))] [(0, v29)] h28 Q
              refine w_iconst gz_128_150 (by decide) ?_
              refine w_iceq (t := 157) gz_128_151 rfl (fun u37 => ?_) (fun u37 => ?_)
              ·
                refine w_iinc (ls' := [(2, 0), (0, x1), (0, p33_0), (0, p60_0), (0, (p60_1 + 1)), (0, v10), (0, (v15 / 8)), (0, (v18 % 8))]) gz_128_157 rfl gm_128 rfl rfl rfl ⟨by omega, by omega⟩ ?_
                refine w_goto (t := 60) gz_128_160 rfl ?_
                have ce38 : h28 120 6 = h60_0 120 6 := ((my_fr.at frh28 is_120 rfl).trans (rfl : h60_0 120 6 = h60_0 120 6))
                refine w_weak (ls' := [(2, 0), (0, x1), (0, p33_0), (0, p60_0), (0, (p60_1 + 1)), (9, 0), (9, 0), (9, 0)]) (wk_e (wk_e (wk_e (wk_e (wk_e (wk_9 (wk_9 (wk_9 wk_n)))))))) ?_
                exact ih_60_0 (p60_0) ((p60_1 + 1)) h28 (gh28) (by omega) (by omega) (by omega) (by omega) (by omega) (by omega) (by omega) (by omega) (by omega) (((my_fr.at frh28 is_120 rfl).trans ev2.symm).trans (by omega)) (((my_fr.at frh28 is_120 rfl).trans c120_7_60_0).trans (by omega)) (((my_fr.at frh28 is_120 rfl).trans c120_9_60_0).trans (by omega)) Ln_h28 (by omega) (by omega)
              ·
                refine w_iinc (ls' := [(2, 0), (0, x1), (0, p33_0), (0, (p60_0 + 1)), (0, p60_1), (0, v10), (0, (v15 / 8)), (0, (v18 % 8))]) gz_128_154 rfl gm_128 rfl rfl rfl ⟨by omega, by omega⟩ ?_
                refine w_iinc (ls' := [(2, 0), (0, x1), (0, p33_0), (0, (p60_0 + 1)), (0, (p60_1 + 1)), (0, v10), (0, (v15 / 8)), (0, (v18 % 8))]) gz_128_157 rfl gm_128 rfl rfl rfl ⟨by omega, by omega⟩ ?_
                refine w_goto (t := 60) gz_128_160 rfl ?_
                have ce39 : h28 120 6 = h60_0 120 6 := ((my_fr.at frh28 is_120 rfl).trans (rfl : h60_0 120 6 = h60_0 120 6))
                refine w_weak (ls' := [(2, 0), (0, x1), (0, p33_0), (0, (p60_0 + 1)), (0, (p60_1 + 1)), (9, 0), (9, 0), (9, 0)]) (wk_e (wk_e (wk_e (wk_e (wk_e (wk_9 (wk_9 (wk_9 wk_n)))))))) ?_
                exact ih_60_0 ((p60_0 + 1)) ((p60_1 + 1)) h28 (gh28) (by omega) (by omega) (by omega) (by omega) (by omega) (by omega) (by omega) (by omega) (by omega) (((my_fr.at frh28 is_120 rfl).trans ev2.symm).trans (by omega)) (((my_fr.at frh28 is_120 rfl).trans c120_7_60_0).trans (by omega)) (((my_fr.at frh28 is_120 rfl).trans c120_9_60_0).trans (by omega)) Ln_h28 (by omega) (by omega)
      refine w_iload_n gz_128_33 rfl ?_
      refine w_aload_n gz_128_34 rfl ?_
      refine w_getX (v := 120) gz_128_35 is_0 rd_9 rfl (by decide) rfl ?_
      refine v_getI (j := 7) gz_128_38 rfl is_120 rd_0 rfl (fun v41 ev41 pv41 qv41 => ?_)
      have zv41 := ev41.trans c120_7_33_0
      refine w_icge (t := 181) gz_128_41 rfl (fun u42 => ?_) (fun u42 => ?_)
      ·
        refine w_iload_n gz_128_181 rfl ?_
        refine w_ifne (t := 195) gz_128_182 rfl (fun u43 => ?_) (fun u43 => ?_)
        ·
          refine w_iload_n gz_128_195 rfl ?_
          refine w_iconst gz_128_196 (by decide) ?_
          refine w_icne (t := 210) gz_128_197 rfl (fun u44 => ?_) (fun u44 => ?_)
          ·
            refine w_aload_n gz_128_210 rfl ?_
            refine w_getX (v := 120) gz_128_211 is_0 rd_9 rfl (by decide) rfl ?_
            refine v_getI (j := 9) gz_128_214 rfl is_120 rd_0 rfl (fun v46 ev46 pv46 qv46 => ?_)
            have zv46 := ev46.trans c120_9_33_0
            exact w_iret gz_128_217 gm_128 (k1 h33_0 (v46) (gh_33_0) (by omega) (by omega) n_Ln_33_0)
          ·
            refine w_aload_n gz_128_200 rfl ?_
            refine w_getX (v := 120) gz_128_201 is_0 rd_9 rfl (by decide) rfl ?_
            refine v_getI (j := 6) gz_128_204 rfl is_120 rd_0 rfl (fun v48 ev48 pv48 qv48 => ?_)
            refine w_goto (t := 217) gz_128_207 rfl ?_
            exact w_iret gz_128_217 gm_128 (k1 h33_0 (v48) (gh_33_0) (by omega) (by omega) n_Ln_33_0)
        ·
          refine w_aload_n gz_128_185 rfl ?_
          refine w_getX (v := 120) gz_128_186 is_0 rd_9 rfl (by decide) rfl ?_
          refine v_getI (j := 8) gz_128_189 rfl is_120 rd_0 rfl (fun v50 ev50 pv50 qv50 => ?_)
          refine w_goto (t := 217) gz_128_192 rfl ?_
          exact w_iret gz_128_217 gm_128 (k1 h33_0 (v50) (gh_33_0) (by omega) (by omega) n_Ln_33_0)
      ·
        refine w_aload_n gz_128_44 rfl ?_
        refine w_getX (v := 145) gz_128_45 is_0 rd_9 rfl (by decide) rfl ?_
        refine w_aload_n gz_128_48 rfl ?_
        refine w_getX (v := 7) gz_128_49 is_0 rd_9 rfl (by decide) rfl ?_
        refine w_inv (k := 0) (as := [(2, 7)]) (r := []) (x := 145) (ls0 := [(2, 145), (2, 7)]) gz_128_52 gm_25 rfl is_145 rd_6 rfl rfl rfl rfl rfl ?_
        refine w_aload_n gz_25_0 rfl ?_
        refine w_getX (v := 8) gz_25_1 is_7 rd_6 rfl (by decide) rfl ?_
        refine w_iconst gz_25_4 (by decide) ?_
        refine w_aload_n gz_25_5 rfl ?_
        refine w_getX (v := 146) gz_25_6 is_145 rd_6 rfl (by decide) rfl ?_
        refine w_iconst gz_25_9 (by decide) ?_
        refine w_aload_n gz_25_10 rfl ?_
        refine w_getX (v := 146) gz_25_11 is_145 rd_6 rfl (by decide) rfl ?_
        refine v_alen (j := 240) gz_25_14 rfl is_146 rd_30 (by decide) ?_
        refine w_cpU gz_25_15 is_8 rd_30 is_146 rd_30 (by omega) (by omega) (by omega) (by omega) (by omega) rfl (by decide) (by decide) (fun h56 fh56 => ?_)
        have gh56 : my_fr [(0, 4), (0, 6), (0, 7), (0, 8), (0, 9), (2, 11), (2, 12), (2, 13), (2, 14), (2, 15), (2, 16), (7, 0), (7, 1), (7, 2), (7, 3), (7, 4), (7, 5), (8, 0), (8, 1), (30, -1), (31, -1), (41, -1), (42, -1), (43, -1), (44, -1), (49, -1)] h h56 := my_fr.cp gh_33_0 is_146 fh56 rfl
        have Ln_h56 : Ln h56 := Ln_ag (my_ag.cp fh56 is_146 rfl) n_Ln_33_0
        refine w_aload_n gz_25_18 rfl ?_
        refine w_getX (v := 9) gz_25_19 is_7 rd_6 rfl (by decide) rfl ?_
        refine w_iconst gz_25_22 (by decide) ?_
        refine w_aload_n gz_25_23 rfl ?_
        refine w_getX (v := 147) gz_25_24 is_145 rd_6 rfl (by decide) rfl ?_
        refine w_iconst gz_25_27 (by decide) ?_
        refine w_aload_n gz_25_28 rfl ?_
        refine w_getX (v := 147) gz_25_29 is_145 rd_6 rfl (by decide) rfl ?_
        refine v_alen (j := 3) gz_25_32 rfl is_147 rd_31 (by decide) ?_
        refine w_cpU gz_25_33 is_9 rd_31 is_147 rd_31 (by omega) (by omega) (by omega) (by omega) (by omega) rfl (by decide) (by decide) (fun h60 fh60 => ?_)
        have gh60 : my_fr [(0, 4), (0, 6), (0, 7), (0, 8), (0, 9), (2, 11), (2, 12), (2, 13), (2, 14), (2, 15), (2, 16), (7, 0), (7, 1), (7, 2), (7, 3), (7, 4), (7, 5), (8, 0), (8, 1), (30, -1), (31, -1), (41, -1), (42, -1), (43, -1), (44, -1), (49, -1)] h h60 := my_fr.cp gh56 is_147 fh60 rfl
        have Ln_h60 : Ln h60 := Ln_ag (my_ag.cp fh60 is_147 rfl) Ln_h56
        refine w_vret gz_25_36 gm_25 ?_
        show wp l rho (d + 7) 128 55 [(2, 0), (0, x1), (0, p33_0), (9, 0), (9, 0), (9, 0), (9, 0), (9, 0)] [] h60 Q
        refine w_iconst gz_128_55 (by decide) ?_
        refine w_istore_n (ls' := [(2, 0), (0, x1), (0, p33_0), (0, 0), (9, 0), (9, 0), (9, 0), (9, 0)]) gz_128_56 gm_128 rfl rfl rfl ?_
        refine w_iconst gz_128_57 (by decide) ?_
        refine w_istore (ls' := [(2, 0), (0, x1), (0, p33_0), (0, 0), (0, 0), (9, 0), (9, 0), (9, 0)]) gz_128_58 gm_128 rfl rfl rfl ?_
        have ce61 : h60 120 6 = h33_0 120 6 := ((my_cp_role fh60 is_120 is_147 rfl).trans ((my_cp_role fh56 is_120 is_146 rfl).trans (rfl : h33_0 120 6 = h33_0 120 6)))
        exact J60_0 4 (0) (0) h60 (gh60) (by omega) (by omega) (by omega) (by omega) (by omega) (by omega) (by omega) (by omega) (by omega) (((my_cp_role fh60 is_120 is_147 rfl).trans ((my_cp_role fh56 is_120 is_146 rfl).trans c120_4_33_0)).trans (by omega)) (((my_cp_role fh60 is_120 is_147 rfl).trans ((my_cp_role fh56 is_120 is_146 rfl).trans ev41.symm)).trans (by omega)) (((my_cp_role fh60 is_120 is_147 rfl).trans ((my_cp_role fh56 is_120 is_146 rfl).trans c120_9_33_0)).trans (by omega)) Ln_h60 (by omega) (by omega)
  refine w_iload_n gz_128_0 rfl ?_
  refine w_iflt (t := 9) gz_128_1 rfl (fun u62 => ?_) (fun u62 => ?_)
  ·
    refine w_iconst gz_128_9 (by decide) ?_
    exact w_iret gz_128_10 gm_128 (k0 h (my_fr.rf) n_Ln)
  ·
    refine w_iload_n gz_128_4 rfl ?_
    refine w_iconst gz_128_5 (by decide) ?_
    refine w_icle (t := 11) gz_128_6 rfl (fun u63 => ?_) (fun u63 => ?_)
    ·
      refine w_aload_n gz_128_11 rfl ?_
      refine w_getX (v := 120) gz_128_12 is_0 rd_9 rfl (by decide) rfl ?_
      refine w_inv (k := 1) (as := []) (r := []) (x := 120) (ls0 := [(2, 120), (9, 0)]) gz_128_15 gm_129 rfl is_120 rd_0 rfl rfl rfl rfl rfl (c_Clerks_beginNight (d := (d + 6))   (fun h65 frh65 w66 w67 w68 w69 w70 w71 w72 => ?_))
      have gh65 : my_fr [(0, 4), (0, 6), (0, 7), (0, 8), (0, 9), (2, 11), (2, 12), (2, 13), (2, 14), (2, 15), (2, 16), (7, 0), (7, 1), (7, 2), (7, 3), (7, 4), (7, 5), (8, 0), (8, 1), (30, -1), (31, -1), (41, -1), (42, -1), (43, -1), (44, -1), (49, -1)] h h65 := my_fr.tr my_fr.rf (frh65.mo rfl)
      have Ln_h65 : Ln h65 := Ln_ag (my_ag.fr frh65 rfl) n_Ln
      show wp l rho (d + 7) 128 18 [(2, 0), (0, x1), (9, 0), (9, 0), (9, 0), (9, 0), (9, 0), (9, 0)] [] h65 Q
      refine w_iload_n gz_128_18 rfl ?_
      refine w_iconst gz_128_19 (by decide) ?_
      refine w_icne (t := 31) gz_128_20 rfl (fun u73 => ?_) (fun u73 => ?_)
      ·
        refine w_iconst gz_128_31 (by decide) ?_
        refine w_istore_n (ls' := [(2, 0), (0, x1), (0, 0), (9, 0), (9, 0), (9, 0), (9, 0), (9, 0)]) gz_128_32 gm_128 rfl rfl rfl ?_
        have ce74 : h65 120 6 = 0 := w68
        exact J33_0 7 (0) ((h65 120 4)) ((h65 120 7)) (0) h65 (gh65) (by omega) (by omega) (by omega) (by omega) (by omega) (by omega) (by omega) (by omega) (by omega) (by omega) ((rfl : h65 120 4 = h65 120 4).trans (by omega)) ((rfl : h65 120 7 = h65 120 7).trans (by omega)) (w72.trans (by omega)) Ln_h65 (by omega) (by omega)
      ·
        refine w_aload_n gz_128_23 rfl ?_
        refine w_getX (v := 120) gz_128_24 is_0 rd_9 rfl (by decide) rfl ?_
        refine v_getI (j := 7) gz_128_27 rfl is_120 rd_0 rfl (fun v76 ev76 pv76 qv76 => ?_)
        have zv76 := ev76.trans (rfl : h65 120 7 = h65 120 7)
        exact w_iret gz_128_30 gm_128 (k1 h65 (v76) (gh65) (by omega) (by omega) Ln_h65)
    ·
      refine w_iconst gz_128_9 (by decide) ?_
      exact w_iret gz_128_10 gm_128 (k0 h (my_fr.rf) n_Ln)
theorem c_ThroughWindow_carried {l : Launch} {rho : Nat → Int32} {d : Nat} {h : my_H} {Q : my_H → my_V → Prop} {x1 x2 : Int} (n_Ln : Ln h) (k0 : ∀ (h' : my_H), my_fr [(8, 0), (8, 1), (42, -1), (43, -1), (44, -1)] h h' → Ln h' → Q h' (0, (-1))) (k1 : ∀ (h' : my_H), my_fr [(8, 0), (8, 1), (42, -1), (43, -1), (44, -1)] h h' → 0 ≤ x1 → x1 ≤ 5 → 1 ≤ x2 → x2 ≤ 1 → h' 0 3 = 1 → Ln h' → Q h' (0, 0)) (k2 : ∀ (h' : my_H) (y : Int), my_fr [(8, 0), (8, 1), (42, -1), (43, -1), (44, -1)] h h' → (-11) ≤ y → y ≤ 11 → 0 ≤ x1 → x1 ≤ 5 → 0 ≤ x2 → x2 ≤ 1 → h' 0 3 = 1 → Ln h' → Q h' (0, y)) : wp l rho (d + 5) 133 0 [(2, 0), (0, x1), (0, x2), (9, 0), (9, 0)] [] h Q := by
  refine w_aload_n gz_133_0 rfl ?_
  refine v_getI (j := 3) gz_133_1 rfl is_0 rd_9 rfl (fun v1 ev1 pv1 qv1 => ?_)
  refine w_ifeq (t := 31) gz_133_4 rfl (fun u2 => ?_) (fun u2 => ?_)
  ·
    refine w_iconst gz_133_31 (by decide) ?_
    exact w_iret gz_133_32 gm_133 (k0 h (my_fr.rf) n_Ln)
  ·
    refine w_iload_n gz_133_7 rfl ?_
    refine w_iflt (t := 31) gz_133_8 rfl (fun u3 => ?_) (fun u3 => ?_)
    ·
      refine w_iconst gz_133_31 (by decide) ?_
      exact w_iret gz_133_32 gm_133 (k0 h (my_fr.rf) n_Ln)
    ·
      refine w_iload_n gz_133_11 rfl ?_
      refine w_iconst gz_133_12 (by decide) ?_
      refine w_icgt (t := 31) gz_133_13 rfl (fun u4 => ?_) (fun u4 => ?_)
      ·
        refine w_iconst gz_133_31 (by decide) ?_
        exact w_iret gz_133_32 gm_133 (k0 h (my_fr.rf) n_Ln)
      ·
        refine w_aload_n gz_133_16 rfl ?_
        refine w_getX (v := 94) gz_133_17 is_0 rd_9 rfl (by decide) rfl ?_
        refine w_aload_n gz_133_20 rfl ?_
        refine w_getX (v := 7) gz_133_21 is_0 rd_9 rfl (by decide) rfl ?_
        refine w_iload_n gz_133_24 rfl ?_
        refine w_inv (k := 0) (as := [(0, x1), (2, 7)]) (r := []) (x := 94) (ls0 := [(2, 94), (2, 7), (0, x1)]) gz_133_25 gm_65 rfl is_94 rd_2 rfl rfl rfl rfl rfl (c_Desk_looks (d := d) (x1 := 7) (x2 := x1) is_7 n_Ln (fun h7 frh7 => ?_) (fun h8 frh8 w9 w10 xp11 xp12 => ?_))
        ·
          have gh7 : my_fr [(8, 0), (8, 1), (42, -1), (43, -1), (44, -1)] h h7 := my_fr.tr my_fr.rf (frh7.mo rfl)
          have Ln_h7 : Ln h7 := Ln_ag (my_ag.fr frh7 rfl) n_Ln
          show wp l rho (d + 5) 133 28 [(2, 0), (0, x1), (0, x2), (9, 0), (9, 0)] [(0, 0)] h7 Q
          refine w_ifne (t := 33) gz_133_28 rfl (fun u13 => by exfalso; omega) (fun u13 => ?_)
          refine w_iconst gz_133_31 (by decide) ?_
          exact w_iret gz_133_32 gm_133 (k0 h7 (gh7) Ln_h7)
        ·
          have gh8 : my_fr [(8, 0), (8, 1), (42, -1), (43, -1), (44, -1)] h h8 := my_fr.tr my_fr.rf (frh8.mo rfl)
          have Ln_h8 : Ln h8 := Ln_ag (my_ag.fr frh8 rfl) n_Ln
          show wp l rho (d + 5) 133 28 [(2, 0), (0, x1), (0, x2), (9, 0), (9, 0)] [(0, 1)] h8 Q
          have Td_h8t14 : Td h8 x1 := xp12
          refine w_ifne (t := 33) gz_133_28 rfl (fun u15 => ?_) (fun u15 => by exfalso; omega)
          refine w_aload_n gz_133_33 rfl ?_
          refine w_getX (v := 94) gz_133_34 is_0 rd_9 rfl (by decide) rfl ?_
          refine w_getX (v := 106) gz_133_37 is_94 rd_2 rfl (by decide) rfl ?_
          refine w_aload_n gz_133_40 rfl ?_
          refine w_getX (v := 27) gz_133_41 is_0 rd_9 rfl (by decide) rfl ?_
          refine w_iload_n gz_133_44 rfl ?_
          refine w_aload_n gz_133_45 rfl ?_
          refine w_getX (v := 10) gz_133_46 is_0 rd_9 rfl (by decide) rfl ?_
          refine w_inv (k := 4) (as := [(2, 10), (0, x1), (2, 27)]) (r := []) (x := 106) (ls0 := [(2, 106), (2, 27), (0, x1), (2, 10), (9, 0), (9, 0), (9, 0), (9, 0)]) gz_133_49 gm_67 rfl is_106 rd_8 rfl rfl rfl rfl rfl (c_View_show (d := (d + 1)) (x0 := 106) (x2 := x1) (x3 := 10) is_106 (by omega) (by omega) (by omega) (by omega) is_10 Ln_h8 Td_h8t14 (fun h20 v21 frh20 fxh20 w22 xp23 => ?_))
          have gh20 : my_fr [(8, 0), (8, 1), (42, -1), (43, -1), (44, -1)] h h20 := my_fr.tr gh8 (frh20.mo rfl)
          have Ln_h20 : Ln h20 := Ln_ag (my_ag.fr frh20 rfl) Ln_h8
          have Td_h20 : Td h20 x1 := Td_ag (my_ag.fr frh20 rfl) Ln_h8 Td_h8t14
          show wp l rho (d + 5) 133 52 [(2, 0), (0, x1), (0, x2), (9, 0), (9, 0)] [(2, v21)] h20 Q
          refine w_astore_n (ls' := [(2, 0), (0, x1), (0, x2), (2, v21), (9, 0)]) gz_133_52 gm_133 rfl rfl rfl ?_
          refine w_aload_n gz_133_53 rfl ?_
          refine w_getX (v := 94) gz_133_54 is_0 rd_9 rfl (by decide) rfl ?_
          refine w_getX (v := 98) gz_133_57 is_94 rd_2 rfl (by decide) rfl ?_
          refine w_aload_n gz_133_60 rfl ?_
          refine w_inv (k := 3) (as := [(2, v21)]) (r := []) (x := 98) (ls0 := [(2, 98), (2, v21), (9, 0), (9, 0), (9, 0)]) gz_133_61 gm_134 rfl is_98 rd_8 rfl rfl rfl rfl rfl (c_View_countShared (d := (d + 3)) (x0 := 98) (x1 := v21) is_98 w22 ?_ (fun v26 w27 w28 => ?_))
          ·
            show wp l rho (d + 5) 133 64 [(2, 0), (0, x1), (0, x2), (2, v21), (9, 0)] [(0, 0)] h20 Q
            refine w_istore (ls' := [(2, 0), (0, x1), (0, x2), (2, v21), (0, 0)]) gz_133_64 gm_133 rfl rfl rfl ?_
            refine w_iload_n gz_133_66 rfl ?_
            refine w_ifne (t := 86) gz_133_67 rfl (fun u29 => ?_) (fun u29 => ?_)
            ·
              refine w_aload_n gz_133_86 rfl ?_
              refine v_getI (j := 0) gz_133_87 rfl w22 rd_8 rfl (fun v30 ev30 pv30 qv30 => ?_)
              refine w_iload gz_133_90 rfl ?_
              refine w_isub gz_133_92 ⟨by omega, by omega⟩ ?_
              have c31 := ((my_fr.at frh20 is_0 rfl).trans ((my_fr.at frh8 is_0 rfl).trans ev1.symm))
              exact w_iret gz_133_93 gm_133 (k2 h20 ((v30 - 0)) (gh20) (by omega) (by omega) (by omega) (by omega) (by omega) (by omega) (by omega) Ln_h20)
            ·
              refine w_aload_n gz_133_70 rfl ?_
              refine w_getX (v := 94) gz_133_71 is_0 rd_9 rfl (by decide) rfl ?_
              refine w_getX (v := 98) gz_133_74 is_94 rd_2 rfl (by decide) rfl ?_
              refine v_getI (j := 0) gz_133_77 rfl is_98 rd_8 rfl (fun v34 ev34 pv34 qv34 => ?_)
              refine w_iload gz_133_80 rfl ?_
              refine w_isub gz_133_82 ⟨by omega, by omega⟩ ?_
              refine w_goto (t := 93) gz_133_83 rfl ?_
              have c35 := ((my_fr.at frh20 is_0 rfl).trans ((my_fr.at frh8 is_0 rfl).trans ev1.symm))
              exact w_iret gz_133_93 gm_133 (k2 h20 ((v34 - 0)) (gh20) (by omega) (by omega) (by omega) (by omega) (by omega) (by omega) (by omega) Ln_h20)
          ·
            show wp l rho (d + 5) 133 64 [(2, 0), (0, x1), (0, x2), (2, v21), (9, 0)] [(0, v26)] h20 Q
            refine w_istore (ls' := [(2, 0), (0, x1), (0, x2), (2, v21), (0, v26)]) gz_133_64 gm_133 rfl rfl rfl ?_
            refine w_iload_n gz_133_66 rfl ?_
            refine w_ifne (t := 86) gz_133_67 rfl (fun u36 => ?_) (fun u36 => ?_)
            ·
              refine w_aload_n gz_133_86 rfl ?_
              refine v_getI (j := 0) gz_133_87 rfl w22 rd_8 rfl (fun v37 ev37 pv37 qv37 => ?_)
              refine w_iload gz_133_90 rfl ?_
              refine w_isub gz_133_92 ⟨by omega, by omega⟩ ?_
              have c38 := ((my_fr.at frh20 is_0 rfl).trans ((my_fr.at frh8 is_0 rfl).trans ev1.symm))
              exact w_iret gz_133_93 gm_133 (k2 h20 ((v37 - v26)) (gh20) (by omega) (by omega) (by omega) (by omega) (by omega) (by omega) (by omega) Ln_h20)
            ·
              refine w_aload_n gz_133_70 rfl ?_
              refine w_getX (v := 94) gz_133_71 is_0 rd_9 rfl (by decide) rfl ?_
              refine w_getX (v := 98) gz_133_74 is_94 rd_2 rfl (by decide) rfl ?_
              refine v_getI (j := 0) gz_133_77 rfl is_98 rd_8 rfl (fun v41 ev41 pv41 qv41 => ?_)
              refine w_iload gz_133_80 rfl ?_
              refine w_isub gz_133_82 ⟨by omega, by omega⟩ ?_
              refine w_goto (t := 93) gz_133_83 rfl ?_
              have c42 := ((my_fr.at frh20 is_0 rfl).trans ((my_fr.at frh8 is_0 rfl).trans ev1.symm))
              exact w_iret gz_133_93 gm_133 (k2 h20 ((v41 - v26)) (gh20) (by omega) (by omega) (by omega) (by omega) (by omega) (by omega) (by omega) Ln_h20)
theorem c_ThroughWindow_window {l : Launch} {rho : Nat → Int32} {d : Nat} {h : my_H} {Q : my_H → my_V → Prop} {x1 : Int} (n_Ln : Ln h) (k0 : ∀ (h' : my_H), my_fr [(4, 0), (4, 1), (4, 2), (4, 3), (4, 4), (4, 5), (4, 6), (4, 7), (4, 8), (4, 9), (5, 2), (5, 4), (5, 5), (5, 6), (5, 7), (5, 8), (5, 9), (22, -1), (32, -1), (33, -1), (34, -1), (35, -1), (36, -1), (37, -1), (38, -1), (39, -1)] h h' → Ln h' → Q h' (0, (-1))) (k1 : ∀ (h' : my_H), my_fr [(4, 0), (4, 1), (4, 2), (4, 3), (4, 4), (4, 5), (4, 6), (4, 7), (4, 8), (4, 9), (5, 2), (5, 4), (5, 5), (5, 6), (5, 7), (5, 8), (5, 9), (22, -1), (32, -1), (33, -1), (34, -1), (35, -1), (36, -1), (37, -1), (38, -1), (39, -1)] h h' → 0 ≤ x1 → x1 ≤ 5 → Ln h' → Q h' (0, 0)) (k2 : ∀ (h' : my_H) (y : Int), my_fr [(4, 0), (4, 1), (4, 2), (4, 3), (4, 4), (4, 5), (4, 6), (4, 7), (4, 8), (4, 9), (5, 2), (5, 4), (5, 5), (5, 6), (5, 7), (5, 8), (5, 9), (22, -1), (32, -1), (33, -1), (34, -1), (35, -1), (36, -1), (37, -1), (38, -1), (39, -1)] h h' → 1 ≤ y → y ≤ 16005 → 0 ≤ x1 → x1 ≤ 5 → Ln h' → Q h' (0, y)) : wp l rho (d + 10) 34 0 [(2, 0), (0, x1)] [] h Q := by
  refine w_iload_n gz_34_0 rfl ?_
  refine w_iflt (t := 18) gz_34_1 rfl (fun u1 => ?_) (fun u1 => ?_)
  ·
    refine w_aload_n gz_34_18 rfl ?_
    refine w_getX (v := 82) gz_34_19 is_0 rd_9 rfl (by decide) rfl ?_
    refine w_iconst gz_34_22 (by decide) ?_
    refine v_putI (j := 4) gz_34_23 rfl is_82 rd_5 rfl (by omega) (by omega) rfl (fun h3 fh3 => ?_)
    have gh3 : my_fr [(4, 0), (4, 1), (4, 2), (4, 3), (4, 4), (4, 5), (4, 6), (4, 7), (4, 8), (4, 9), (5, 2), (5, 4), (5, 5), (5, 6), (5, 7), (5, 8), (5, 9), (22, -1), (32, -1), (33, -1), (34, -1), (35, -1), (36, -1), (37, -1), (38, -1), (39, -1)] h h3 := my_fr.up my_fr.rf is_82 fh3 rfl
    have Ln_h3 : Ln h3 := Ln_ag (my_ag.up fh3 is_82 rfl) n_Ln
    refine w_iconst gz_34_26 (by decide) ?_
    exact w_iret gz_34_27 gm_34 (k0 h3 (gh3) Ln_h3)
  ·
    refine w_iload_n gz_34_4 rfl ?_
    refine w_bipush gz_34_5 (by decide) ?_
    refine w_icge (t := 18) gz_34_7 rfl (fun u4 => ?_) (fun u4 => ?_)
    ·
      refine w_aload_n gz_34_18 rfl ?_
      refine w_getX (v := 82) gz_34_19 is_0 rd_9 rfl (by decide) rfl ?_
      refine w_iconst gz_34_22 (by decide) ?_
      refine v_putI (j := 4) gz_34_23 rfl is_82 rd_5 rfl (by omega) (by omega) rfl (fun h6 fh6 => ?_)
      have gh6 : my_fr [(4, 0), (4, 1), (4, 2), (4, 3), (4, 4), (4, 5), (4, 6), (4, 7), (4, 8), (4, 9), (5, 2), (5, 4), (5, 5), (5, 6), (5, 7), (5, 8), (5, 9), (22, -1), (32, -1), (33, -1), (34, -1), (35, -1), (36, -1), (37, -1), (38, -1), (39, -1)] h h6 := my_fr.up my_fr.rf is_82 fh6 rfl
      have Ln_h6 : Ln h6 := Ln_ag (my_ag.up fh6 is_82 rfl) n_Ln
      refine w_iconst gz_34_26 (by decide) ?_
      exact w_iret gz_34_27 gm_34 (k0 h6 (gh6) Ln_h6)
    ·
      refine w_aload_n gz_34_10 rfl ?_
      refine w_iload_n gz_34_11 rfl ?_
      refine w_inv (k := 1) (as := [(0, x1)]) (r := []) (x := 0) (ls0 := [(2, 0), (0, x1), (9, 0)]) gz_34_12 gm_35 rfl is_0 rd_9 rfl rfl rfl rfl rfl (c_ThroughWindow_isUnderAnother (d := (d + 9)) (x1 := x1) (by omega) (by omega) (fun xp7 => ?_) ?_)
      ·
        show wp l rho (d + 10) 34 15 [(2, 0), (0, x1)] [(0, 0)] h Q
        have Un_ht8 : Un h x1 := xp7
        refine w_ifeq (t := 28) gz_34_15 rfl (fun u9 => ?_) (fun u9 => by exfalso; omega)
        refine w_aload_n gz_34_28 rfl ?_
        refine w_getX (v := 82) gz_34_29 is_0 rd_9 rfl (by decide) rfl ?_
        refine w_iload_n gz_34_32 rfl ?_
        refine w_inv (k := 1) (as := [(0, x1)]) (r := []) (x := 82) (ls0 := [(2, 82), (0, x1), (9, 0)]) gz_34_33 gm_36 rfl is_82 rd_5 rfl rfl rfl rfl rfl (c_Reader_read (d := d) (x1 := x1) (wv := x1) (by omega) (by omega) (by first | assumption | omega) (by first | assumption | omega) n_Ln Un_ht8 (by first | assumption | omega | (subst_vars; omega)) (fun h11 v12 frh11 w13 w14 w15 w16 w17 Ln_h11t18 => ?_) (fun h19 frh19 w20 w21 Ln_h19t22 => ?_))
        ·
          have gh11 : my_fr [(4, 0), (4, 1), (4, 2), (4, 3), (4, 4), (4, 5), (4, 6), (4, 7), (4, 8), (4, 9), (5, 2), (5, 4), (5, 5), (5, 6), (5, 7), (5, 8), (5, 9), (22, -1), (32, -1), (33, -1), (34, -1), (35, -1), (36, -1), (37, -1), (38, -1), (39, -1)] h h11 := my_fr.tr my_fr.rf (frh11.mo rfl)
          show wp l rho (d + 10) 34 36 [(2, 0), (0, x1)] [(0, v12)] h11 Q
          exact w_iret gz_34_36 gm_34 (k2 h11 (v12) (gh11) (by omega) (by omega) (by omega) (by omega) Ln_h11t18)
        ·
          have gh19 : my_fr [(4, 0), (4, 1), (4, 2), (4, 3), (4, 4), (4, 5), (4, 6), (4, 7), (4, 8), (4, 9), (5, 2), (5, 4), (5, 5), (5, 6), (5, 7), (5, 8), (5, 9), (22, -1), (32, -1), (33, -1), (34, -1), (35, -1), (36, -1), (37, -1), (38, -1), (39, -1)] h h19 := my_fr.tr my_fr.rf (frh19.mo rfl)
          show wp l rho (d + 10) 34 36 [(2, 0), (0, x1)] [(0, 0)] h19 Q
          exact w_iret gz_34_36 gm_34 (k1 h19 (gh19) (by omega) (by omega) Ln_h19t22)
      ·
        show wp l rho (d + 10) 34 15 [(2, 0), (0, x1)] [(0, 1)] h Q
        refine w_ifeq (t := 28) gz_34_15 rfl (fun u23 => by exfalso; omega) (fun u23 => ?_)
        refine w_aload_n gz_34_18 rfl ?_
        refine w_getX (v := 82) gz_34_19 is_0 rd_9 rfl (by decide) rfl ?_
        refine w_iconst gz_34_22 (by decide) ?_
        refine v_putI (j := 4) gz_34_23 rfl is_82 rd_5 rfl (by omega) (by omega) rfl (fun h25 fh25 => ?_)
        have gh25 : my_fr [(4, 0), (4, 1), (4, 2), (4, 3), (4, 4), (4, 5), (4, 6), (4, 7), (4, 8), (4, 9), (5, 2), (5, 4), (5, 5), (5, 6), (5, 7), (5, 8), (5, 9), (22, -1), (32, -1), (33, -1), (34, -1), (35, -1), (36, -1), (37, -1), (38, -1), (39, -1)] h h25 := my_fr.up my_fr.rf is_82 fh25 rfl
        have Ln_h25 : Ln h25 := Ln_ag (my_ag.up fh25 is_82 rfl) n_Ln
        refine w_iconst gz_34_26 (by decide) ?_
        exact w_iret gz_34_27 gm_34 (k0 h25 (gh25) Ln_h25)
theorem c_ThroughWindow_seen {l : Launch} {rho : Nat → Int32} {d : Nat} {h : my_H} {Q : my_H → my_V → Prop} {x1 x2 x3 : Int} (n_Ln : Ln h) (k0 : ∀ (h' : my_H), my_fr [(8, 0), (8, 1), (42, -1), (43, -1), (44, -1)] h h' → Ln h' → Q h' (0, (-1))) (k1 : ∀ (h' : my_H) (y : Int), my_fr [(8, 0), (8, 1), (42, -1), (43, -1), (44, -1)] h h' → 0 ≤ x1 → x1 ≤ 5 → 0 ≤ x2 → x2 ≤ 10 → 0 ≤ x3 → x3 ≤ 7 → Ln h' → Q h' (0, y)) : wp l rho (d + 5) 64 0 [(2, 0), (0, x1), (0, x2), (0, x3), (9, 0)] [] h Q := by
  refine w_aload_n gz_64_0 rfl ?_
  refine w_getX (v := 94) gz_64_1 is_0 rd_9 rfl (by decide) rfl ?_
  refine w_getX (v := 98) gz_64_4 is_94 rd_2 rfl (by decide) rfl ?_
  refine w_astore (ls' := [(2, 0), (0, x1), (0, x2), (0, x3), (2, 98)]) gz_64_7 gm_64 rfl rfl rfl ?_
  refine w_aload_n gz_64_9 rfl ?_
  refine w_getX (v := 94) gz_64_10 is_0 rd_9 rfl (by decide) rfl ?_
  refine w_aload_n gz_64_13 rfl ?_
  refine w_getX (v := 7) gz_64_14 is_0 rd_9 rfl (by decide) rfl ?_
  refine w_iload_n gz_64_17 rfl ?_
  refine w_inv (k := 0) (as := [(0, x1), (2, 7)]) (r := []) (x := 94) (ls0 := [(2, 94), (2, 7), (0, x1)]) gz_64_18 gm_65 rfl is_94 rd_2 rfl rfl rfl rfl rfl (c_Desk_looks (d := d) (x1 := 7) (x2 := x1) is_7 n_Ln (fun h5 frh5 => ?_) (fun h6 frh6 w7 w8 xp9 xp10 => ?_))
  ·
    have gh5 : my_fr [(8, 0), (8, 1), (42, -1), (43, -1), (44, -1)] h h5 := my_fr.tr my_fr.rf (frh5.mo rfl)
    have Ln_h5 : Ln h5 := Ln_ag (my_ag.fr frh5 rfl) n_Ln
    show wp l rho (d + 5) 64 21 [(2, 0), (0, x1), (0, x2), (0, x3), (2, 98)] [(0, 0)] h5 Q
    refine w_ifeq (t := 34) gz_64_21 rfl (fun u11 => ?_) (fun u11 => by exfalso; omega)
    refine w_iconst gz_64_34 (by decide) ?_
    exact w_iret gz_64_35 gm_64 (k0 h5 (gh5) Ln_h5)
  ·
    have gh6 : my_fr [(8, 0), (8, 1), (42, -1), (43, -1), (44, -1)] h h6 := my_fr.tr my_fr.rf (frh6.mo rfl)
    have Ln_h6 : Ln h6 := Ln_ag (my_ag.fr frh6 rfl) n_Ln
    show wp l rho (d + 5) 64 21 [(2, 0), (0, x1), (0, x2), (0, x3), (2, 98)] [(0, 1)] h6 Q
    refine w_ifeq (t := 34) gz_64_21 rfl (fun u12 => by exfalso; omega) (fun u12 => ?_)
    refine w_aload gz_64_24 rfl ?_
    refine w_iload_n gz_64_26 rfl ?_
    refine w_iload_n gz_64_27 rfl ?_
    refine w_inv (k := 0) (as := [(0, x3), (0, x2)]) (r := []) (x := 98) (ls0 := [(2, 98), (0, x2), (0, x3)]) gz_64_28 gm_81 rfl is_98 rd_8 rfl rfl rfl rfl rfl ?_
    refine w_iload_n gz_81_0 rfl ?_
    refine w_iflt (t := 28) gz_81_1 rfl (fun u13 => ?_) (fun u13 => ?_)
    ·
      refine w_iconst gz_81_28 (by decide) ?_
      refine w_bret gz_81_29 gm_81 (by omega) (by omega) ?_
      show wp l rho (d + 5) 64 31 [(2, 0), (0, x1), (0, x2), (0, x3), (2, 98)] [(0, 0)] h6 Q
      refine w_ifne (t := 36) gz_64_31 rfl (fun u14 => by exfalso; omega) (fun u14 => ?_)
      refine w_iconst gz_64_34 (by decide) ?_
      exact w_iret gz_64_35 gm_64 (k0 h6 (gh6) Ln_h6)
    ·
      refine w_iload_n gz_81_4 rfl ?_
      refine w_aload_n gz_81_5 rfl ?_
      refine v_getI (j := 0) gz_81_6 rfl is_98 rd_8 rfl (fun v15 ev15 pv15 qv15 => ?_)
      refine w_icge (t := 28) gz_81_9 rfl (fun u16 => ?_) (fun u16 => ?_)
      ·
        refine w_iconst gz_81_28 (by decide) ?_
        refine w_bret gz_81_29 gm_81 (by omega) (by omega) ?_
        show wp l rho (d + 5) 64 31 [(2, 0), (0, x1), (0, x2), (0, x3), (2, 98)] [(0, 0)] h6 Q
        refine w_ifne (t := 36) gz_64_31 rfl (fun u17 => by exfalso; omega) (fun u17 => ?_)
        refine w_iconst gz_64_34 (by decide) ?_
        exact w_iret gz_64_35 gm_64 (k0 h6 (gh6) Ln_h6)
      ·
        refine w_iload_n gz_81_12 rfl ?_
        refine w_iflt (t := 28) gz_81_13 rfl (fun u18 => ?_) (fun u18 => ?_)
        ·
          refine w_iconst gz_81_28 (by decide) ?_
          refine w_bret gz_81_29 gm_81 (by omega) (by omega) ?_
          show wp l rho (d + 5) 64 31 [(2, 0), (0, x1), (0, x2), (0, x3), (2, 98)] [(0, 0)] h6 Q
          refine w_ifne (t := 36) gz_64_31 rfl (fun u19 => by exfalso; omega) (fun u19 => ?_)
          refine w_iconst gz_64_34 (by decide) ?_
          exact w_iret gz_64_35 gm_64 (k0 h6 (gh6) Ln_h6)
        ·
          refine w_iload_n gz_81_16 rfl ?_
          refine w_aload_n gz_81_17 rfl ?_
          refine v_getI (j := 1) gz_81_18 rfl is_98 rd_8 rfl (fun v20 ev20 pv20 qv20 => ?_)
          refine w_icge (t := 28) gz_81_21 rfl (fun u21 => ?_) (fun u21 => ?_)
          ·
            refine w_iconst gz_81_28 (by decide) ?_
            refine w_bret gz_81_29 gm_81 (by omega) (by omega) ?_
            show wp l rho (d + 5) 64 31 [(2, 0), (0, x1), (0, x2), (0, x3), (2, 98)] [(0, 0)] h6 Q
            refine w_ifne (t := 36) gz_64_31 rfl (fun u22 => by exfalso; omega) (fun u22 => ?_)
            refine w_iconst gz_64_34 (by decide) ?_
            exact w_iret gz_64_35 gm_64 (k0 h6 (gh6) Ln_h6)
          ·
            refine w_iconst gz_81_24 (by decide) ?_
            refine w_goto (t := 29) gz_81_25 rfl ?_
            refine w_bret gz_81_29 gm_81 (by omega) (by omega) ?_
            show wp l rho (d + 5) 64 31 [(2, 0), (0, x1), (0, x2), (0, x3), (2, 98)] [(0, 1)] h6 Q
            refine w_ifne (t := 36) gz_64_31 rfl (fun u23 => ?_) (fun u23 => by exfalso; omega)
            refine w_aload gz_64_36 rfl ?_
            refine w_iload_n gz_64_38 rfl ?_
            refine w_iload_n gz_64_39 rfl ?_
            refine w_inv (k := 0) (as := [(0, x3), (0, x2)]) (r := []) (x := 98) (ls0 := [(2, 98), (0, x2), (0, x3)]) gz_64_40 gm_74 rfl is_98 rd_8 rfl rfl rfl rfl rfl ?_
            refine w_aload_n gz_74_0 rfl ?_
            refine w_getX (v := 99) gz_74_1 is_98 rd_8 rfl (by decide) rfl ?_
            refine w_iload_n gz_74_4 rfl ?_
            refine w_bipush gz_74_5 (by decide) ?_
            refine w_imul gz_74_7 ⟨by omega, by omega⟩ ?_
            refine w_iload_n gz_74_8 rfl ?_
            refine w_iadd gz_74_9 ⟨by omega, by omega⟩ ?_
            refine w_gldA gz_74_10 is_99 rd_42 (by omega) (by omega) (fun v25 ev25 pv25 qv25 => ?_)
            refine w_iret gz_74_11 gm_74 ?_
            show wp l rho (d + 5) 64 43 [(2, 0), (0, x1), (0, x2), (0, x3), (2, 98)] [(0, v25)] h6 Q
            exact w_iret gz_64_43 gm_64 (k1 h6 (v25) (gh6) (by omega) (by omega) (by omega) (by omega) (by omega) (by omega) Ln_h6)
theorem c_ThroughWindow_ways {l : Launch} {rho : Nat → Int32} {d : Nat} {h : my_H} {Q : my_H → my_V → Prop} {x1 x2 x3 x4 x5 : Int} (n_Ln : Ln h) (k0 : ∀ (h' : my_H), my_fr [(2, 11), (2, 12), (2, 13), (2, 14), (2, 15), (2, 16), (7, 0), (7, 1), (7, 2), (7, 3), (7, 4), (7, 5), (8, 0), (8, 1), (30, -1), (31, -1), (41, -1), (42, -1), (43, -1), (44, -1)] h h' → Ln h' → Q h' (0, (-1))) (k1 : ∀ (h' : my_H) (y : Int), my_fr [(2, 11), (2, 12), (2, 13), (2, 14), (2, 15), (2, 16), (7, 0), (7, 1), (7, 2), (7, 3), (7, 4), (7, 5), (8, 0), (8, 1), (30, -1), (31, -1), (41, -1), (42, -1), (43, -1), (44, -1)] h h' → 0 ≤ x1 → x1 ≤ 5 → 0 ≤ x2 → x2 ≤ 2 → Ln h' → Q h' (0, y)) : wp l rho (d + 6) 86 0 [(2, 0), (0, x1), (0, x2), (0, x3), (0, x4), (0, x5)] [] h Q := by
  refine w_aload_n gz_86_0 rfl ?_
  refine w_getX (v := 94) gz_86_1 is_0 rd_9 rfl (by decide) rfl ?_
  refine w_aload_n gz_86_4 rfl ?_
  refine w_getX (v := 7) gz_86_5 is_0 rd_9 rfl (by decide) rfl ?_
  refine w_iload_n gz_86_8 rfl ?_
  refine w_iload_n gz_86_9 rfl ?_
  refine w_iload_n gz_86_10 rfl ?_
  refine w_iload gz_86_11 rfl ?_
  refine w_iload gz_86_13 rfl ?_
  refine w_inv (k := 0) (as := [(0, x5), (0, x4), (0, x3), (0, x2), (0, x1), (2, 7)]) (r := []) (x := 94) (ls0 := [(2, 94), (2, 7), (0, x1), (0, x2), (0, x3), (0, x4), (0, x5)]) gz_86_15 gm_87 rfl is_94 rd_2 rfl rfl rfl rfl rfl (c_Desk_opens (d := d) (x1 := 7) (x2 := x1) (x3 := x2) (x4 := x3) (x5 := x4) (x6 := x5) is_7 n_Ln (fun h3 frh3 => ?_) (fun h4 frh4 w5 w6 w7 w8 w9 w10 xp11 xp12 xp13 xp14 xp15 => ?_))
  ·
    have gh3 : my_fr [(2, 11), (2, 12), (2, 13), (2, 14), (2, 15), (2, 16), (7, 0), (7, 1), (7, 2), (7, 3), (7, 4), (7, 5), (8, 0), (8, 1), (30, -1), (31, -1), (41, -1), (42, -1), (43, -1), (44, -1)] h h3 := my_fr.tr my_fr.rf (frh3.mo rfl)
    have Ln_h3 : Ln h3 := Ln_ag (my_ag.fr frh3 rfl) n_Ln
    show wp l rho (d + 6) 86 18 [(2, 0), (0, x1), (0, x2), (0, x3), (0, x4), (0, x5)] [(0, 0)] h3 Q
    refine w_ifne (t := 23) gz_86_18 rfl (fun u16 => by exfalso; omega) (fun u16 => ?_)
    refine w_iconst gz_86_21 (by decide) ?_
    exact w_iret gz_86_22 gm_86 (k0 h3 (gh3) Ln_h3)
  ·
    have gh4 : my_fr [(2, 11), (2, 12), (2, 13), (2, 14), (2, 15), (2, 16), (7, 0), (7, 1), (7, 2), (7, 3), (7, 4), (7, 5), (8, 0), (8, 1), (30, -1), (31, -1), (41, -1), (42, -1), (43, -1), (44, -1)] h h4 := my_fr.tr my_fr.rf (frh4.mo rfl)
    have Ln_h4 : Ln h4 := Ln_ag (my_ag.fr frh4 rfl) n_Ln
    show wp l rho (d + 6) 86 18 [(2, 0), (0, x1), (0, x2), (0, x3), (0, x4), (0, x5)] [(0, 1)] h4 Q
    have Td_h4t17 : Td h4 x1 := xp15
    refine w_ifne (t := 23) gz_86_18 rfl (fun u18 => ?_) (fun u18 => by exfalso; omega)
    refine w_aload_n gz_86_23 rfl ?_
    refine w_getX (v := 94) gz_86_24 is_0 rd_9 rfl (by decide) rfl ?_
    refine w_aload_n gz_86_27 rfl ?_
    refine w_getX (v := 7) gz_86_28 is_0 rd_9 rfl (by decide) rfl ?_
    refine w_iload_n gz_86_31 rfl ?_
    refine w_iconst gz_86_32 (by decide) ?_
    refine w_iconst gz_86_33 (by decide) ?_
    refine w_inv (k := 2) (as := [(0, 0), (0, (-1)), (0, x1), (2, 7)]) (r := []) (x := 94) (ls0 := [(2, 94), (2, 7), (0, x1), (0, (-1)), (0, 0), (9, 0), (9, 0)]) gz_86_34 gm_92 rfl is_94 rd_2 rfl rfl rfl rfl rfl (c_Desk_search (d := d) (x1 := 7) (x2 := x1) (x3 := (-1)) (x4 := 0) is_7 (by omega) (by omega) (by omega) (by omega) (by omega) Ln_h4 Td_h4t17 (by first | assumption | omega | (subst_vars; omega)) (fun h21 frh21 w22 w23 w24 Lst_h21t25 => ?_))
    have gh21 : my_fr [(2, 11), (2, 12), (2, 13), (2, 14), (2, 15), (2, 16), (7, 0), (7, 1), (7, 2), (7, 3), (7, 4), (7, 5), (8, 0), (8, 1), (30, -1), (31, -1), (41, -1), (42, -1), (43, -1), (44, -1)] h h21 := my_fr.tr gh4 (frh21.mo rfl)
    have Ln_h21 : Ln h21 := Ln_ag (my_ag.fr frh21 rfl) Ln_h4
    have Td_h21 : Td h21 x1 := Td_ag (my_ag.fr frh21 rfl) Ln_h4 Td_h4t17
    show wp l rho (d + 6) 86 37 [(2, 0), (0, x1), (0, x2), (0, x3), (0, x4), (0, x5)] [] h21 Q
    refine w_aload_n gz_86_37 rfl ?_
    refine w_getX (v := 94) gz_86_38 is_0 rd_9 rfl (by decide) rfl ?_
    refine v_getI (j := 11) gz_86_41 rfl is_94 rd_2 rfl (fun v27 ev27 pv27 qv27 => ?_)
    exact w_iret gz_86_44 gm_86 (k1 h21 (v27) (gh21) (by omega) (by omega) (by omega) (by omega) Ln_h21)
theorem c_ThroughWindow_put {l : Launch} {rho : Nat → Int32} {d : Nat} {h : my_H} {Q : my_H → my_V → Prop} {x1 x2 x3 x4 x5 : Int} (n_Ln : Ln h) (k0 : ∀ (h' : my_H), my_fr [(2, 11), (2, 12), (2, 13), (2, 14), (2, 15), (2, 16), (7, 0), (7, 1), (7, 2), (7, 3), (7, 4), (7, 5), (8, 0), (8, 1), (9, 3), (30, -1), (31, -1), (41, -1), (42, -1), (43, -1), (44, -1)] h h' → Ln h' → Q h' (0, (-1))) (k1 : ∀ (h' : my_H) (y : Int), my_fr [(2, 11), (2, 12), (2, 13), (2, 14), (2, 15), (2, 16), (7, 0), (7, 1), (7, 2), (7, 3), (7, 4), (7, 5), (8, 0), (8, 1), (9, 3), (30, -1), (31, -1), (41, -1), (42, -1), (43, -1), (44, -1)] h h' → Ln h' → Q h' (0, y)) : wp l rho (d + 7) 113 0 [(2, 0), (0, x1), (0, x2), (0, x3), (0, x4), (0, x5), (9, 0)] [] h Q := by
  refine w_aload_n gz_113_0 rfl ?_
  refine w_getX (v := 145) gz_113_1 is_0 rd_9 rfl (by decide) rfl ?_
  refine w_aload_n gz_113_4 rfl ?_
  refine w_getX (v := 7) gz_113_5 is_0 rd_9 rfl (by decide) rfl ?_
  refine w_inv (k := 0) (as := [(2, 7)]) (r := []) (x := 145) (ls0 := [(2, 145), (2, 7)]) gz_113_8 gm_25 rfl is_145 rd_6 rfl rfl rfl rfl rfl ?_
  refine w_aload_n gz_25_0 rfl ?_
  refine w_getX (v := 8) gz_25_1 is_7 rd_6 rfl (by decide) rfl ?_
  refine w_iconst gz_25_4 (by decide) ?_
  refine w_aload_n gz_25_5 rfl ?_
  refine w_getX (v := 146) gz_25_6 is_145 rd_6 rfl (by decide) rfl ?_
  refine w_iconst gz_25_9 (by decide) ?_
  refine w_aload_n gz_25_10 rfl ?_
  refine w_getX (v := 146) gz_25_11 is_145 rd_6 rfl (by decide) rfl ?_
  refine v_alen (j := 240) gz_25_14 rfl is_146 rd_30 (by decide) ?_
  refine w_cpU gz_25_15 is_8 rd_30 is_146 rd_30 (by omega) (by omega) (by omega) (by omega) (by omega) rfl (by decide) (by decide) (fun h6 fh6 => ?_)
  have gh6 : my_fr [(2, 11), (2, 12), (2, 13), (2, 14), (2, 15), (2, 16), (7, 0), (7, 1), (7, 2), (7, 3), (7, 4), (7, 5), (8, 0), (8, 1), (9, 3), (30, -1), (31, -1), (41, -1), (42, -1), (43, -1), (44, -1)] h h6 := my_fr.cp my_fr.rf is_146 fh6 rfl
  have Ln_h6 : Ln h6 := Ln_ag (my_ag.cp fh6 is_146 rfl) n_Ln
  refine w_aload_n gz_25_18 rfl ?_
  refine w_getX (v := 9) gz_25_19 is_7 rd_6 rfl (by decide) rfl ?_
  refine w_iconst gz_25_22 (by decide) ?_
  refine w_aload_n gz_25_23 rfl ?_
  refine w_getX (v := 147) gz_25_24 is_145 rd_6 rfl (by decide) rfl ?_
  refine w_iconst gz_25_27 (by decide) ?_
  refine w_aload_n gz_25_28 rfl ?_
  refine w_getX (v := 147) gz_25_29 is_145 rd_6 rfl (by decide) rfl ?_
  refine v_alen (j := 3) gz_25_32 rfl is_147 rd_31 (by decide) ?_
  refine w_cpU gz_25_33 is_9 rd_31 is_147 rd_31 (by omega) (by omega) (by omega) (by omega) (by omega) rfl (by decide) (by decide) (fun h10 fh10 => ?_)
  have gh10 : my_fr [(2, 11), (2, 12), (2, 13), (2, 14), (2, 15), (2, 16), (7, 0), (7, 1), (7, 2), (7, 3), (7, 4), (7, 5), (8, 0), (8, 1), (9, 3), (30, -1), (31, -1), (41, -1), (42, -1), (43, -1), (44, -1)] h h10 := my_fr.cp gh6 is_147 fh10 rfl
  have Ln_h10 : Ln h10 := Ln_ag (my_ag.cp fh10 is_147 rfl) Ln_h6
  refine w_vret gz_25_36 gm_25 ?_
  show wp l rho (d + 7) 113 11 [(2, 0), (0, x1), (0, x2), (0, x3), (0, x4), (0, x5), (9, 0)] [] h10 Q
  refine w_aload_n gz_113_11 rfl ?_
  refine w_getX (v := 94) gz_113_12 is_0 rd_9 rfl (by decide) rfl ?_
  refine w_aload_n gz_113_15 rfl ?_
  refine w_getX (v := 7) gz_113_16 is_0 rd_9 rfl (by decide) rfl ?_
  refine w_iload_n gz_113_19 rfl ?_
  refine w_iload_n gz_113_20 rfl ?_
  refine w_iload_n gz_113_21 rfl ?_
  refine w_iload gz_113_22 rfl ?_
  refine w_iload gz_113_24 rfl ?_
  refine w_inv (k := 0) (as := [(0, x5), (0, x4), (0, x3), (0, x2), (0, x1), (2, 7)]) (r := []) (x := 94) (ls0 := [(2, 94), (2, 7), (0, x1), (0, x2), (0, x3), (0, x4), (0, x5)]) gz_113_26 gm_114 rfl is_94 rd_2 rfl rfl rfl rfl rfl (c_Desk_putOn (d := d) (x1 := 7) (x2 := x1) (x3 := x2) (x4 := x3) (x5 := x4) (x6 := x5) is_7 Ln_h10 (fun h13 frh13 => ?_) (fun h14 v15 frh14 w16 w17 w18 w19 w20 => ?_))
  ·
    have gh13 : my_fr [(2, 11), (2, 12), (2, 13), (2, 14), (2, 15), (2, 16), (7, 0), (7, 1), (7, 2), (7, 3), (7, 4), (7, 5), (8, 0), (8, 1), (9, 3), (30, -1), (31, -1), (41, -1), (42, -1), (43, -1), (44, -1)] h h13 := my_fr.tr gh10 (frh13.mo rfl)
    have Ln_h13 : Ln h13 := Ln_ag (my_ag.fr frh13 rfl) Ln_h10
    show wp l rho (d + 7) 113 29 [(2, 0), (0, x1), (0, x2), (0, x3), (0, x4), (0, x5), (9, 0)] [(0, (-1))] h13 Q
    refine w_istore (ls' := [(2, 0), (0, x1), (0, x2), (0, x3), (0, x4), (0, x5), (0, (-1))]) gz_113_29 gm_113 rfl rfl rfl ?_
    refine w_iload gz_113_31 rfl ?_
    refine w_iconst gz_113_33 (by decide) ?_
    refine w_iceq (t := 53) gz_113_34 rfl (fun u21 => ?_) (fun u21 => by exfalso; omega)
    refine w_iload gz_113_53 rfl ?_
    exact w_iret gz_113_55 gm_113 (k0 h13 (gh13) Ln_h13)
  ·
    have gh14 : my_fr [(2, 11), (2, 12), (2, 13), (2, 14), (2, 15), (2, 16), (7, 0), (7, 1), (7, 2), (7, 3), (7, 4), (7, 5), (8, 0), (8, 1), (9, 3), (30, -1), (31, -1), (41, -1), (42, -1), (43, -1), (44, -1)] h h14 := my_fr.tr gh10 (frh14.mo rfl)
    have Ln_h14 : Ln h14 := Ln_ag (my_ag.fr frh14 rfl) Ln_h10
    show wp l rho (d + 7) 113 29 [(2, 0), (0, x1), (0, x2), (0, x3), (0, x4), (0, x5), (9, 0)] [(0, v15)] h14 Q
    refine w_istore (ls' := [(2, 0), (0, x1), (0, x2), (0, x3), (0, x4), (0, x5), (0, v15)]) gz_113_29 gm_113 rfl rfl rfl ?_
    refine w_iload gz_113_31 rfl ?_
    refine w_iconst gz_113_33 (by decide) ?_
    refine w_iceq (t := 53) gz_113_34 rfl (fun u22 => ?_) (fun u22 => ?_)
    ·
      refine w_iload gz_113_53 rfl ?_
      exact w_iret gz_113_55 gm_113 (k1 h14 (v15) (gh14) Ln_h14)
    ·
      refine w_aload_n gz_113_37 rfl ?_
      refine w_getX (v := 10) gz_113_38 is_0 rd_9 rfl (by decide) rfl ?_
      refine w_aload_n gz_113_41 rfl ?_
      refine w_getX (v := 145) gz_113_42 is_0 rd_9 rfl (by decide) rfl ?_
      refine w_inv (k := 0) (as := [(2, 145)]) (r := []) (x := 10) (ls0 := [(2, 10), (2, 145)]) gz_113_45 gm_25 rfl is_10 rd_6 rfl rfl rfl rfl rfl ?_
      refine w_aload_n gz_25_0 rfl ?_
      refine w_getX (v := 146) gz_25_1 is_145 rd_6 rfl (by decide) rfl ?_
      refine w_iconst gz_25_4 (by decide) ?_
      refine w_aload_n gz_25_5 rfl ?_
      refine w_getX (v := 11) gz_25_6 is_10 rd_6 rfl (by decide) rfl ?_
      refine w_iconst gz_25_9 (by decide) ?_
      refine w_aload_n gz_25_10 rfl ?_
      refine w_getX (v := 11) gz_25_11 is_10 rd_6 rfl (by decide) rfl ?_
      refine v_alen (j := 240) gz_25_14 rfl is_11 rd_30 (by decide) ?_
      refine w_cpU gz_25_15 is_146 rd_30 is_11 rd_30 (by omega) (by omega) (by omega) (by omega) (by omega) rfl (by decide) (by decide) (fun h28 fh28 => ?_)
      have gh28 : my_fr [(2, 11), (2, 12), (2, 13), (2, 14), (2, 15), (2, 16), (7, 0), (7, 1), (7, 2), (7, 3), (7, 4), (7, 5), (8, 0), (8, 1), (9, 3), (30, -1), (31, -1), (41, -1), (42, -1), (43, -1), (44, -1)] h h28 := my_fr.cp gh14 is_11 fh28 rfl
      have Ln_h28 : Ln h28 := Ln_ag (my_ag.cp fh28 is_11 rfl) Ln_h14
      refine w_aload_n gz_25_18 rfl ?_
      refine w_getX (v := 147) gz_25_19 is_145 rd_6 rfl (by decide) rfl ?_
      refine w_iconst gz_25_22 (by decide) ?_
      refine w_aload_n gz_25_23 rfl ?_
      refine w_getX (v := 12) gz_25_24 is_10 rd_6 rfl (by decide) rfl ?_
      refine w_iconst gz_25_27 (by decide) ?_
      refine w_aload_n gz_25_28 rfl ?_
      refine w_getX (v := 12) gz_25_29 is_10 rd_6 rfl (by decide) rfl ?_
      refine v_alen (j := 3) gz_25_32 rfl is_12 rd_31 (by decide) ?_
      refine w_cpU gz_25_33 is_147 rd_31 is_12 rd_31 (by omega) (by omega) (by omega) (by omega) (by omega) rfl (by decide) (by decide) (fun h32 fh32 => ?_)
      have gh32 : my_fr [(2, 11), (2, 12), (2, 13), (2, 14), (2, 15), (2, 16), (7, 0), (7, 1), (7, 2), (7, 3), (7, 4), (7, 5), (8, 0), (8, 1), (9, 3), (30, -1), (31, -1), (41, -1), (42, -1), (43, -1), (44, -1)] h h32 := my_fr.cp gh28 is_12 fh32 rfl
      have Ln_h32 : Ln h32 := Ln_ag (my_ag.cp fh32 is_12 rfl) Ln_h28
      refine w_vret gz_25_36 gm_25 ?_
      show wp l rho (d + 7) 113 48 [(2, 0), (0, x1), (0, x2), (0, x3), (0, x4), (0, x5), (0, v15)] [] h32 Q
      refine w_aload_n gz_113_48 rfl ?_
      refine w_iconst gz_113_49 (by decide) ?_
      refine v_putB (j := 3) gz_113_50 rfl is_0 rd_9 rfl (by omega) (by omega) rfl (fun h33 fh33 => ?_)
      have gh33 : my_fr [(2, 11), (2, 12), (2, 13), (2, 14), (2, 15), (2, 16), (7, 0), (7, 1), (7, 2), (7, 3), (7, 4), (7, 5), (8, 0), (8, 1), (9, 3), (30, -1), (31, -1), (41, -1), (42, -1), (43, -1), (44, -1)] h h33 := my_fr.up gh32 is_0 fh33 rfl
      have Ln_h33 : Ln h33 := Ln_ag (my_ag.up fh33 is_0 rfl) Ln_h32
      refine w_iload gz_113_53 rfl ?_
      exact w_iret gz_113_55 gm_113 (k1 h33 (v15) (gh33) Ln_h33)
end MYNModel_readCut_f0
