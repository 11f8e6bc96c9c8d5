/-! contracts, printed by wip/gen/gy.py -/
section MYNModel_takeNumber2_f1
theorem c_Model_takeNumber2_f1 {l : Launch} {rho : Nat → Int32} {d : Nat} {h : my_H} {Q : my_H → my_V → Prop} {x1 : Int} (a1 : (-1) ≤ x1) (b1 : x1 ≤ 19) (xf : Int) (cf : h 151 8 = xf) (cf1 : 1 ≤ xf) (cf2 : xf ≤ 16005) (n_Tok : Tok h) (k0 : 1 ≤ h 151 8 → h 151 8 ≤ 16005 → h 151 7 = h 151 7 → Tok h → Q h (0, 0)) : wp l rho (d + 1) 187 0 [(2, 151), (0, x1)] [] h Q := by
  refine v_know (x := 151) (j := 7) (b := 7) rfl is_151 rd_10 rfl (fun k151_7 ek151_7 pk151_7 qk151_7 => ?_)
  refine w_aload_n gz_187_0 rfl ?_
  refine v_getI (j := 8) gz_187_1 rfl is_151 rd_10 rfl (fun v1 ev1 pv1 qv1 => ?_)
  have zv1 := ev1.trans cf
  refine w_ifne (t := 28) gz_187_4 rfl (fun u2 => ?_) (fun u2 => by exfalso; omega)
  refine w_aload_n gz_187_28 rfl ?_
  refine v_getI (j := 8) gz_187_29 rfl is_151 rd_10 rfl (fun v3 ev3 pv3 qv3 => ?_)
  have zv3 := ev3.trans ev1.symm
  refine w_ifne (t := 55) gz_187_32 rfl (fun u4 => ?_) (fun u4 => by exfalso; omega)
  refine w_aload_n gz_187_55 rfl ?_
  refine v_getI (j := 8) gz_187_56 rfl is_151 rd_10 rfl (fun v5 ev5 pv5 qv5 => ?_)
  have zv5 := ev5.trans ev3.symm
  refine w_ifle (t := 64) gz_187_59 rfl (fun u6 => by exfalso; omega) (fun u6 => ?_)
  refine w_iconst gz_187_62 (by decide) ?_
  have ce7 : h 151 7 = k151_7 := ek151_7.symm
  have c8 := ev5.symm
  exact w_iret gz_187_63 gm_187 (k0 (by omega) (by omega) (by first | assumption | omega | (subst_vars; omega)) n_Tok)
theorem c_Model_takeNumber2_f0 {l : Launch} {rho : Nat → Int32} {d : Nat} {h : my_H} {Q : my_H → my_V → Prop} {x1 : Int} (a1 : (-1) ≤ x1) (b1 : x1 ≤ 19) (cf : h 151 8 = 0) (n_Tok : Tok h) (k0 : ∀ (h' : my_H), my_fr [(10, 7), (10, 8)] h h' → 1 ≤ h' 151 8 → h' 151 8 ≤ 16004 → h' 151 7 = h 151 7 → Tok h' → Q h' (0, 0)) (k1 : ∀ (h' : my_H) (y : Int), my_fr [(10, 7), (10, 8)] h h' → 0 ≤ y → y ≤ 999 → 1 ≤ h' 151 7 → h' 151 7 ≤ 1001 → h' 151 8 = 0 → 0 ≤ y → y ≤ x1 → h' 151 7 = h 151 7 + 1 → h 153 (h 151 7) = 2 → y = h 155 (h 151 7) → Tok h' → Q h' (0, y)) : wp l rho (d + 1) 187 0 [(2, 151), (0, x1)] [] h Q := by
  refine v_know (x := 151) (j := 7) (b := 7) rfl is_151 rd_10 rfl (fun k151_7 ek151_7 pk151_7 qk151_7 => ?_)
  refine w_aload_n gz_187_0 rfl ?_
  refine v_getI (j := 8) gz_187_1 rfl is_151 rd_10 rfl (fun v1 ev1 pv1 qv1 => ?_)
  have zv1 := ev1.trans cf
  refine w_ifne (t := 28) gz_187_4 rfl (fun u2 => by exfalso; omega) (fun u2 => ?_)
  refine w_aload_n gz_187_7 rfl ?_
  refine w_getX (v := 153) gz_187_8 is_151 rd_10 rfl (by decide) rfl ?_
  refine w_aload_n gz_187_11 rfl ?_
  refine v_getI (j := 7) gz_187_12 rfl is_151 rd_10 rfl (fun v4 ev4 pv4 qv4 => ?_)
  have zv4 := ev4.trans ek151_7.symm
  refine w_iald gz_187_15 is_153 rd_52 (by omega) (by omega) (fun v5 ev5 pv5 qv5 => ?_)
  refine w_iconst gz_187_16 (by decide) ?_
  refine w_iceq (t := 28) gz_187_17 rfl (fun u6 => ?_) (fun u6 => ?_)
  ·
    refine w_aload_n gz_187_28 rfl ?_
    refine v_getI (j := 8) gz_187_29 rfl is_151 rd_10 rfl (fun v7 ev7 pv7 qv7 => ?_)
    have zv7 := ev7.trans ev1.symm
    refine w_ifne (t := 55) gz_187_32 rfl (fun u8 => by exfalso; omega) (fun u8 => ?_)
    refine w_aload_n gz_187_35 rfl ?_
    refine w_getX (v := 155) gz_187_36 is_151 rd_10 rfl (by decide) rfl ?_
    refine w_aload_n gz_187_39 rfl ?_
    refine v_getI (j := 7) gz_187_40 rfl is_151 rd_10 rfl (fun v10 ev10 pv10 qv10 => ?_)
    have zv10 := ev10.trans ev4.symm
    refine w_lald gz_187_43 is_155 rd_54 (by omega) (by omega) (fun v11 ev11 pv11 => ?_)
    refine w_iload_n gz_187_44 rfl ?_
    refine w_i2l gz_187_45 ?_
    refine w_lcmpE gz_187_46 (fun v12 pv12 qv12 xv12 => ?_)
    refine w_ifle (t := 55) gz_187_47 rfl (fun u13 => ?_) (fun u13 => ?_)
    ·
      refine w_aload_n gz_187_55 rfl ?_
      refine v_getI (j := 8) gz_187_56 rfl is_151 rd_10 rfl (fun v14 ev14 pv14 qv14 => ?_)
      have zv14 := ev14.trans ev7.symm
      refine w_ifle (t := 64) gz_187_59 rfl (fun u15 => ?_) (fun u15 => by exfalso; omega)
      refine w_aload_n gz_187_64 rfl ?_
      refine w_dup gz_187_65 rfl ?_
      refine v_getI (j := 7) gz_187_66 rfl is_151 rd_10 rfl (fun v16 ev16 pv16 qv16 => ?_)
      have zv16 := ev16.trans ev10.symm
      refine w_iconst gz_187_69 (by decide) ?_
      refine w_iadd gz_187_70 ⟨by omega, by omega⟩ ?_
      have tq := Tok_at n_Tok
      have hi17 : 0 ≤ (v16 + 1) := by have q := Tok_at n_Tok; omega
      have hi18 : (v16 + 1) ≤ 1001 := by have q := Tok_at n_Tok; omega
      refine v_putI (j := 7) gz_187_71 rfl is_151 rd_10 rfl (by omega) (by omega) rfl (fun h19 fh19 => ?_)
      have gh19 : my_fr [(10, 7), (10, 8)] h h19 := my_fr.up my_fr.rf is_151 fh19 rfl
      have Tok_h19t20 : Tok h19 := by first | exact Tok_inc n_Tok (by subst_vars; omega) (by omega) fh19 | exact Tok_set n_Tok (by omega) fh19
      refine w_aload_n gz_187_74 rfl ?_
      refine w_getX (v := 155) gz_187_75 is_151 rd_10 rfl (by decide) rfl ?_
      refine w_aload_n gz_187_78 rfl ?_
      refine v_getI (j := 7) gz_187_79 rfl is_151 rd_10 rfl (fun v22 ev22 pv22 qv22 => ?_)
      have zv22 := ev22.trans (my_up_self fh19)
      refine w_iconst gz_187_82 (by decide) ?_
      refine w_isub gz_187_83 ⟨by omega, by omega⟩ ?_
      have hi23 : 0 ≤ (v22 - 1) := by omega
      have hi24 : (v22 - 1) ≤ 1000 := by omega
      refine w_lald gz_187_84 is_155 rd_54 (by omega) (by omega) (fun v25 ev25 pv25 => ?_)
      have tb : 0 ≤ v25 ∧ v25 ≤ 999 ∧ v25 ≤ x1 := by
        subst_vars
        rw [my_up_ne rfl (by omega), Int.add_sub_cancel]
        have q := tq.2.2.2 (by omega)
        omega
      have tc : v25 = h 155 (h 151 7) := by
        subst_vars
        rw [my_up_ne rfl (by omega), Int.add_sub_cancel]
      refine w_l2iE gz_187_85 (fun v26 pv26 qv26 xv26 => ?_)
      have hi27 : 0 ≤ v26 := by omega
      have hi28 : v26 ≤ 999 := by omega
      have ce29 : h19 151 7 = v22 := ev22.symm
      have c30 := ev22.symm
      have c31 := ((my_up_fld fh19 (by decide)).trans ev14.symm)
      exact w_iret gz_187_86 gm_187 (k1 h19 (v26) (gh19) (by omega) (by omega) (by omega) (by omega) (by omega) (by first | assumption | omega | (subst_vars; omega)) (by first | assumption | omega | (subst_vars; omega)) (by first | assumption | omega | (subst_vars; omega)) (by first | assumption | omega | (subst_vars; omega)) (by first | assumption | omega | (subst_vars; omega)) Tok_h19t20)
    ·
      refine w_aload_n gz_187_50 rfl ?_
      refine w_iconst gz_187_51 (by decide) ?_
      refine w_inv (k := 0) (as := [(0, 4)]) (r := []) (x := 151) (ls0 := [(2, 151), (0, 4)]) gz_187_52 gm_178 rfl is_151 rd_10 rfl rfl rfl rfl rfl ?_
      refine w_aload_n gz_178_0 rfl ?_
      refine v_getI (j := 8) gz_178_1 rfl is_151 rd_10 rfl (fun v32 ev32 pv32 qv32 => ?_)
      have zv32 := ev32.trans ev7.symm
      refine w_ifne (t := 25) gz_178_4 rfl (fun u33 => by exfalso; omega) (fun u33 => ?_)
      refine w_aload_n gz_178_7 rfl ?_
      refine w_iload_n gz_178_8 rfl ?_
      refine w_bipush gz_178_9 (by decide) ?_
      refine w_aload_n gz_178_11 rfl ?_
      refine w_getX (v := 154) gz_178_12 is_151 rd_10 rfl (by decide) rfl ?_
      refine w_aload_n gz_178_15 rfl ?_
      refine v_getI (j := 7) gz_178_16 rfl is_151 rd_10 rfl (fun v35 ev35 pv35 qv35 => ?_)
      have zv35 := ev35.trans ev10.symm
      refine w_iald gz_178_19 is_154 rd_53 (by omega) (by omega) (fun v36 ev36 pv36 qv36 => ?_)
      refine w_imul gz_178_20 ⟨by omega, by omega⟩ ?_
      refine w_iadd gz_178_21 ⟨by omega, by omega⟩ ?_
      refine v_putI (j := 8) gz_178_22 rfl is_151 rd_10 rfl (by omega) (by omega) rfl (fun h37 fh37 => ?_)
      have gh37 : my_fr [(10, 7), (10, 8)] h h37 := my_fr.up my_fr.rf is_151 fh37 rfl
      have Tok_h37 : Tok h37 := Tok_ag (my_ag.up fh37 is_151 rfl) n_Tok
      refine w_vret gz_178_25 gm_178 ?_
      show wp l rho (d + 1) 187 55 [(2, 151), (0, x1)] [] h37 Q
      refine w_aload_n gz_187_55 rfl ?_
      refine v_getI (j := 8) gz_187_56 rfl is_151 rd_10 rfl (fun v38 ev38 pv38 qv38 => ?_)
      have zv38 := ev38.trans (my_up_self fh37)
      refine w_ifle (t := 64) gz_187_59 rfl (fun u39 => by exfalso; omega) (fun u39 => ?_)
      refine w_iconst gz_187_62 (by decide) ?_
      have ce40 : h37 151 7 = v35 := ((my_up_fld fh37 (by decide)).trans ev35.symm)
      have c41 := ev38.symm
      exact w_iret gz_187_63 gm_187 (k0 h37 (gh37) (by omega) (by omega) (by first | assumption | omega | (subst_vars; omega)) Tok_h37)
  ·
    refine w_aload_n gz_187_20 rfl ?_
    refine w_iconst gz_187_21 (by decide) ?_
    refine w_inv (k := 0) (as := [(0, 1)]) (r := []) (x := 151) (ls0 := [(2, 151), (0, 1)]) gz_187_22 gm_178 rfl is_151 rd_10 rfl rfl rfl rfl rfl ?_
    refine w_aload_n gz_178_0 rfl ?_
    refine v_getI (j := 8) gz_178_1 rfl is_151 rd_10 rfl (fun v42 ev42 pv42 qv42 => ?_)
    have zv42 := ev42.trans ev1.symm
    refine w_ifne (t := 25) gz_178_4 rfl (fun u43 => by exfalso; omega) (fun u43 => ?_)
    refine w_aload_n gz_178_7 rfl ?_
    refine w_iload_n gz_178_8 rfl ?_
    refine w_bipush gz_178_9 (by decide) ?_
    refine w_aload_n gz_178_11 rfl ?_
    refine w_getX (v := 154) gz_178_12 is_151 rd_10 rfl (by decide) rfl ?_
    refine w_aload_n gz_178_15 rfl ?_
    refine v_getI (j := 7) gz_178_16 rfl is_151 rd_10 rfl (fun v45 ev45 pv45 qv45 => ?_)
    have zv45 := ev45.trans ev4.symm
    refine w_iald gz_178_19 is_154 rd_53 (by omega) (by omega) (fun v46 ev46 pv46 qv46 => ?_)
    refine w_imul gz_178_20 ⟨by omega, by omega⟩ ?_
    refine w_iadd gz_178_21 ⟨by omega, by omega⟩ ?_
    refine v_putI (j := 8) gz_178_22 rfl is_151 rd_10 rfl (by omega) (by omega) rfl (fun h47 fh47 => ?_)
    have gh47 : my_fr [(10, 7), (10, 8)] h h47 := my_fr.up my_fr.rf is_151 fh47 rfl
    have Tok_h47 : Tok h47 := Tok_ag (my_ag.up fh47 is_151 rfl) n_Tok
    refine w_vret gz_178_25 gm_178 ?_
    show wp l rho (d + 1) 187 25 [(2, 151), (0, x1)] [] h47 Q
    refine w_goto (t := 55) gz_187_25 rfl ?_
    refine w_aload_n gz_187_55 rfl ?_
    refine v_getI (j := 8) gz_187_56 rfl is_151 rd_10 rfl (fun v48 ev48 pv48 qv48 => ?_)
    have zv48 := ev48.trans (my_up_self fh47)
    refine w_ifle (t := 64) gz_187_59 rfl (fun u49 => by exfalso; omega) (fun u49 => ?_)
    refine w_iconst gz_187_62 (by decide) ?_
    have ce50 : h47 151 7 = v45 := ((my_up_fld fh47 (by decide)).trans ev45.symm)
    have c51 := ev48.symm
    exact w_iret gz_187_63 gm_187 (k0 h47 (gh47) (by omega) (by omega) (by first | assumption | omega | (subst_vars; omega)) Tok_h47)
theorem c_Model_takeNumber2_fq {l : Launch} {rho : Nat → Int32} {d : Nat} {h : my_H} {Q : my_H → my_V → Prop} (n_Tok : Tok h) (k0 : ∀ (h' : my_H), my_fr [(10, 7), (10, 8)] h h' → 1 ≤ h' 151 8 → h' 151 8 ≤ 16005 → h' 151 7 = h 151 7 → Tok h' → Q h' (0, 0)) (k1 : ∀ (h' : my_H) (y : Int), my_fr [(10, 7), (10, 8)] h h' → 0 ≤ y → y ≤ 999 → 1 ≤ h' 151 7 → h' 151 7 ≤ 1001 → h' 151 8 = 0 → 0 ≤ y → y ≤ 199 → h' 151 7 = h 151 7 + 1 → h 153 (h 151 7) = 2 → y = h 155 (h 151 7) → Tok h' → Q h' (0, y)) : wp l rho (d + 1) 187 0 [(2, 151), (0, 199)] [] h Q := by
  refine v_know (x := 151) (j := 7) (b := 7) rfl is_151 rd_10 rfl (fun k151_7 ek151_7 pk151_7 qk151_7 => ?_)
  refine w_aload_n gz_187_0 rfl ?_
  refine v_getI (j := 8) gz_187_1 rfl is_151 rd_10 rfl (fun v1 ev1 pv1 qv1 => ?_)
  refine w_ifne (t := 28) gz_187_4 rfl (fun u2 => ?_) (fun u2 => ?_)
  ·
    refine w_aload_n gz_187_28 rfl ?_
    refine v_getI (j := 8) gz_187_29 rfl is_151 rd_10 rfl (fun v3 ev3 pv3 qv3 => ?_)
    have zv3 := ev3.trans ev1.symm
    refine w_ifne (t := 55) gz_187_32 rfl (fun u4 => ?_) (fun u4 => by exfalso; omega)
    refine w_aload_n gz_187_55 rfl ?_
    refine v_getI (j := 8) gz_187_56 rfl is_151 rd_10 rfl (fun v5 ev5 pv5 qv5 => ?_)
    have zv5 := ev5.trans ev3.symm
    refine w_ifle (t := 64) gz_187_59 rfl (fun u6 => by exfalso; omega) (fun u6 => ?_)
    refine w_iconst gz_187_62 (by decide) ?_
    have ce7 : h 151 7 = k151_7 := ek151_7.symm
    have c8 := ev5.symm
    exact w_iret gz_187_63 gm_187 (k0 h (my_fr.rf) (by omega) (by omega) (by first | assumption | omega | (subst_vars; omega)) n_Tok)
  ·
    refine w_aload_n gz_187_7 rfl ?_
    refine w_getX (v := 153) gz_187_8 is_151 rd_10 rfl (by decide) rfl ?_
    refine w_aload_n gz_187_11 rfl ?_
    refine v_getI (j := 7) gz_187_12 rfl is_151 rd_10 rfl (fun v10 ev10 pv10 qv10 => ?_)
    have zv10 := ev10.trans ek151_7.symm
    refine w_iald gz_187_15 is_153 rd_52 (by omega) (by omega) (fun v11 ev11 pv11 qv11 => ?_)
    refine w_iconst gz_187_16 (by decide) ?_
    refine w_iceq (t := 28) gz_187_17 rfl (fun u12 => ?_) (fun u12 => ?_)
    ·
      refine w_aload_n gz_187_28 rfl ?_
      refine v_getI (j := 8) gz_187_29 rfl is_151 rd_10 rfl (fun v13 ev13 pv13 qv13 => ?_)
      have zv13 := ev13.trans ev1.symm
      refine w_ifne (t := 55) gz_187_32 rfl (fun u14 => by exfalso; omega) (fun u14 => ?_)
      refine w_aload_n gz_187_35 rfl ?_
      refine w_getX (v := 155) gz_187_36 is_151 rd_10 rfl (by decide) rfl ?_
      refine w_aload_n gz_187_39 rfl ?_
      refine v_getI (j := 7) gz_187_40 rfl is_151 rd_10 rfl (fun v16 ev16 pv16 qv16 => ?_)
      have zv16 := ev16.trans ev10.symm
      refine w_lald gz_187_43 is_155 rd_54 (by omega) (by omega) (fun v17 ev17 pv17 => ?_)
      refine w_iload_n gz_187_44 rfl ?_
      refine w_i2l gz_187_45 ?_
      refine w_lcmpE gz_187_46 (fun v18 pv18 qv18 xv18 => ?_)
      refine w_ifle (t := 55) gz_187_47 rfl (fun u19 => ?_) (fun u19 => ?_)
      ·
        refine w_aload_n gz_187_55 rfl ?_
        refine v_getI (j := 8) gz_187_56 rfl is_151 rd_10 rfl (fun v20 ev20 pv20 qv20 => ?_)
        have zv20 := ev20.trans ev13.symm
        refine w_ifle (t := 64) gz_187_59 rfl (fun u21 => ?_) (fun u21 => by exfalso; omega)
        refine w_aload_n gz_187_64 rfl ?_
        refine w_dup gz_187_65 rfl ?_
        refine v_getI (j := 7) gz_187_66 rfl is_151 rd_10 rfl (fun v22 ev22 pv22 qv22 => ?_)
        have zv22 := ev22.trans ev16.symm
        refine w_iconst gz_187_69 (by decide) ?_
        refine w_iadd gz_187_70 ⟨by omega, by omega⟩ ?_
        have tq := Tok_at n_Tok
        have hi23 : 0 ≤ (v22 + 1) := by have q := Tok_at n_Tok; omega
        have hi24 : (v22 + 1) ≤ 1001 := by have q := Tok_at n_Tok; omega
        refine v_putI (j := 7) gz_187_71 rfl is_151 rd_10 rfl (by omega) (by omega) rfl (fun h25 fh25 => ?_)
        have gh25 : my_fr [(10, 7), (10, 8)] h h25 := my_fr.up my_fr.rf is_151 fh25 rfl
        have Tok_h25t26 : Tok h25 := by first | exact Tok_inc n_Tok (by subst_vars; omega) (by omega) fh25 | exact Tok_set n_Tok (by omega) fh25
        refine w_aload_n gz_187_74 rfl ?_
        refine w_getX (v := 155) gz_187_75 is_151 rd_10 rfl (by decide) rfl ?_
        refine w_aload_n gz_187_78 rfl ?_
        refine v_getI (j := 7) gz_187_79 rfl is_151 rd_10 rfl (fun v28 ev28 pv28 qv28 => ?_)
        have zv28 := ev28.trans (my_up_self fh25)
        refine w_iconst gz_187_82 (by decide) ?_
        refine w_isub gz_187_83 ⟨by omega, by omega⟩ ?_
        have hi29 : 0 ≤ (v28 - 1) := by omega
        have hi30 : (v28 - 1) ≤ 1000 := by omega
        refine w_lald gz_187_84 is_155 rd_54 (by omega) (by omega) (fun v31 ev31 pv31 => ?_)
        have tb : 0 ≤ v31 ∧ v31 ≤ 999 ∧ v31 ≤ 199 := by
          subst_vars
          rw [my_up_ne rfl (by omega), Int.add_sub_cancel]
          have q := tq.2.2.2 (by omega)
          omega
        have tc : v31 = h 155 (h 151 7) := by
          subst_vars
          rw [my_up_ne rfl (by omega), Int.add_sub_cancel]
        refine w_l2iE gz_187_85 (fun v32 pv32 qv32 xv32 => ?_)
        have hi33 : 0 ≤ v32 := by omega
        have hi34 : v32 ≤ 999 := by omega
        have ce35 : h25 151 7 = v28 := ev28.symm
        have c36 := ev28.symm
        have c37 := ((my_up_fld fh25 (by decide)).trans ev20.symm)
        exact w_iret gz_187_86 gm_187 (k1 h25 (v32) (gh25) (by omega) (by omega) (by omega) (by omega) (by omega) (by first | assumption | omega | (subst_vars; omega)) (by first | assumption | omega | (subst_vars; omega)) (by first | assumption | omega | (subst_vars; omega)) (by first | assumption | omega | (subst_vars; omega)) (by first | assumption | omega | (subst_vars; omega)) Tok_h25t26)
      ·
        refine w_aload_n gz_187_50 rfl ?_
        refine w_iconst gz_187_51 (by decide) ?_
        refine w_inv (k := 0) (as := [(0, 4)]) (r := []) (x := 151) (ls0 := [(2, 151), (0, 4)]) gz_187_52 gm_178 rfl is_151 rd_10 rfl rfl rfl rfl rfl ?_
        refine w_aload_n gz_178_0 rfl ?_
        refine v_getI (j := 8) gz_178_1 rfl is_151 rd_10 rfl (fun v38 ev38 pv38 qv38 => ?_)
        have zv38 := ev38.trans ev13.symm
        refine w_ifne (t := 25) gz_178_4 rfl (fun u39 => by exfalso; omega) (fun u39 => ?_)
        refine w_aload_n gz_178_7 rfl ?_
        refine w_iload_n gz_178_8 rfl ?_
        refine w_bipush gz_178_9 (by decide) ?_
        refine w_aload_n gz_178_11 rfl ?_
        refine w_getX (v := 154) gz_178_12 is_151 rd_10 rfl (by decide) rfl ?_
        refine w_aload_n gz_178_15 rfl ?_
        refine v_getI (j := 7) gz_178_16 rfl is_151 rd_10 rfl (fun v41 ev41 pv41 qv41 => ?_)
        have zv41 := ev41.trans ev16.symm
        refine w_iald gz_178_19 is_154 rd_53 (by omega) (by omega) (fun v42 ev42 pv42 qv42 => ?_)
        refine w_imul gz_178_20 ⟨by omega, by omega⟩ ?_
        refine w_iadd gz_178_21 ⟨by omega, by omega⟩ ?_
        refine v_putI (j := 8) gz_178_22 rfl is_151 rd_10 rfl (by omega) (by omega) rfl (fun h43 fh43 => ?_)
        have gh43 : my_fr [(10, 7), (10, 8)] h h43 := my_fr.up my_fr.rf is_151 fh43 rfl
        have Tok_h43 : Tok h43 := Tok_ag (my_ag.up fh43 is_151 rfl) n_Tok
        refine w_vret gz_178_25 gm_178 ?_
        show wp l rho (d + 1) 187 55 [(2, 151), (0, 199)] [] h43 Q
        refine w_aload_n gz_187_55 rfl ?_
        refine v_getI (j := 8) gz_187_56 rfl is_151 rd_10 rfl (fun v44 ev44 pv44 qv44 => ?_)
        have zv44 := ev44.trans (my_up_self fh43)
        refine w_ifle (t := 64) gz_187_59 rfl (fun u45 => by exfalso; omega) (fun u45 => ?_)
        refine w_iconst gz_187_62 (by decide) ?_
        have ce46 : h43 151 7 = v41 := ((my_up_fld fh43 (by decide)).trans ev41.symm)
        have c47 := ev44.symm
        exact w_iret gz_187_63 gm_187 (k0 h43 (gh43) (by omega) (by omega) (by first | assumption | omega | (subst_vars; omega)) Tok_h43)
    ·
      refine w_aload_n gz_187_20 rfl ?_
      refine w_iconst gz_187_21 (by decide) ?_
      refine w_inv (k := 0) (as := [(0, 1)]) (r := []) (x := 151) (ls0 := [(2, 151), (0, 1)]) gz_187_22 gm_178 rfl is_151 rd_10 rfl rfl rfl rfl rfl ?_
      refine w_aload_n gz_178_0 rfl ?_
      refine v_getI (j := 8) gz_178_1 rfl is_151 rd_10 rfl (fun v48 ev48 pv48 qv48 => ?_)
      have zv48 := ev48.trans ev1.symm
      refine w_ifne (t := 25) gz_178_4 rfl (fun u49 => by exfalso; omega) (fun u49 => ?_)
      refine w_aload_n gz_178_7 rfl ?_
      refine w_iload_n gz_178_8 rfl ?_
      refine w_bipush gz_178_9 (by decide) ?_
      refine w_aload_n gz_178_11 rfl ?_
      refine w_getX (v := 154) gz_178_12 is_151 rd_10 rfl (by decide) rfl ?_
      refine w_aload_n gz_178_15 rfl ?_
      refine v_getI (j := 7) gz_178_16 rfl is_151 rd_10 rfl (fun v51 ev51 pv51 qv51 => ?_)
      have zv51 := ev51.trans ev10.symm
      refine w_iald gz_178_19 is_154 rd_53 (by omega) (by omega) (fun v52 ev52 pv52 qv52 => ?_)
      refine w_imul gz_178_20 ⟨by omega, by omega⟩ ?_
      refine w_iadd gz_178_21 ⟨by omega, by omega⟩ ?_
      refine v_putI (j := 8) gz_178_22 rfl is_151 rd_10 rfl (by omega) (by omega) rfl (fun h53 fh53 => ?_)
      have gh53 : my_fr [(10, 7), (10, 8)] h h53 := my_fr.up my_fr.rf is_151 fh53 rfl
      have Tok_h53 : Tok h53 := Tok_ag (my_ag.up fh53 is_151 rfl) n_Tok
      refine w_vret gz_178_25 gm_178 ?_
      show wp l rho (d + 1) 187 25 [(2, 151), (0, 199)] [] h53 Q
      refine w_goto (t := 55) gz_187_25 rfl ?_
      refine w_aload_n gz_187_55 rfl ?_
      refine v_getI (j := 8) gz_187_56 rfl is_151 rd_10 rfl (fun v54 ev54 pv54 qv54 => ?_)
      have zv54 := ev54.trans (my_up_self fh53)
      refine w_ifle (t := 64) gz_187_59 rfl (fun u55 => by exfalso; omega) (fun u55 => ?_)
      refine w_iconst gz_187_62 (by decide) ?_
      have ce56 : h53 151 7 = v51 := ((my_up_fld fh53 (by decide)).trans ev51.symm)
      have c57 := ev54.symm
      exact w_iret gz_187_63 gm_187 (k0 h53 (gh53) (by omega) (by omega) (by first | assumption | omega | (subst_vars; omega)) Tok_h53)
end MYNModel_takeNumber2_f1
