/-! contracts, printed by wip/gen/gy.py -/
section MYNModel_takeWord9_f1
theorem c_Model_takeWord9_f1 {l : Launch} {rho : Nat → Int32} {d : Nat} {h : my_H} {Q : my_H → my_V → Prop} (xf : Int) (cf : h 151 8 = xf) (cf1 : 1 ≤ xf) (cf2 : xf ≤ 16005) (n_Tok : Tok h) (n_Wd9 : Wd9 h) (k0 : ∀ (h' : my_H), my_fr [(10, 7)] h h' → 1 ≤ h' 151 8 → h' 151 8 ≤ 16005 → h 151 7 ≤ h' 151 7 → h' 151 7 = h 151 7 → Tok h' → Wd9 h' → Q h' (9, 0)) : wp l rho (d + 2) 175 0 [(2, 151), (0, 9)] [] h Q := by
  refine v_know (x := 151) (j := 7) (b := 7) rfl is_151 rd_10 rfl (fun k151_7 ek151_7 pk151_7 qk151_7 => ?_)
  refine w_aload_n gz_175_0 rfl ?_
  refine w_iload_n gz_175_1 rfl ?_
  refine w_inv (k := 1) (as := [(0, 9)]) (r := []) (x := 151) (ls0 := [(2, 151), (0, 9), (9, 0)]) gz_175_2 gm_176 rfl is_151 rd_10 rfl rfl rfl rfl rfl ?_
  refine w_aload_n gz_176_0 rfl ?_
  refine w_iload_n gz_176_1 rfl ?_
  refine w_inv (k := 0) (as := [(0, 9)]) (r := []) (x := 151) (ls0 := [(2, 151), (0, 9)]) gz_176_2 gm_177 rfl is_151 rd_10 rfl rfl rfl rfl rfl (c_Model_isWord9_f1 (d := d) (x1 := 9) (by omega) (by omega) (xf) (cf) (by omega) (by omega) n_Wd9 (fun w1 w2 xp3 => ?_))
  show wp l rho (d + 1) 176 5 [(2, 151), (0, 9), (9, 0)] [(0, 0)] h _
  rw [show wm 9 = 99 from by decide] at xp3
  refine w_istore_n (ls' := [(2, 151), (0, 9), (0, 0)]) gz_176_5 gm_176 rfl rfl rfl ?_
  refine w_aload_n gz_176_6 rfl ?_
  refine w_dup gz_176_7 rfl ?_
  refine v_getI (j := 7) gz_176_8 rfl is_151 rd_10 rfl (fun v4 ev4 pv4 qv4 => ?_)
  have zv4 := ev4.trans ek151_7.symm
  refine w_iload_n gz_176_11 rfl ?_
  refine w_ifeq (t := 19) gz_176_12 rfl (fun u5 => ?_) (fun u5 => by exfalso; omega)
  refine w_iconst gz_176_19 (by decide) ?_
  refine w_iadd gz_176_20 ⟨by omega, by omega⟩ ?_
  have hi6 : 0 ≤ (v4 + 0) := by have q := Tok_at n_Tok; omega
  have hi7 : (v4 + 0) ≤ 1001 := by have q := Tok_at n_Tok; omega
  refine v_putI (j := 7) gz_176_21 rfl is_151 rd_10 rfl (by omega) (by omega) rfl (fun h8 fh8 => ?_)
  have gh8 : my_fr [(10, 7)] h h8 := my_fr.up my_fr.rf is_151 fh8 rfl
  have ps9 : h8 151 7 = h 151 7 := by
    rw [my_up_self fh8]
    omega
  have Wd9_h8 : Wd9 h8 := Wd9_ag (my_ag.up fh8 is_151 rfl) n_Wd9
  have Tok_h8t10 : Tok h8 := by first | exact Tok_inc n_Tok (by subst_vars; omega) (by omega) fh8 | exact Tok_set n_Tok (by omega) fh8 | omega
  refine w_iload_n gz_176_24 rfl ?_
  refine w_bret gz_176_25 gm_176 (by omega) (by omega) ?_
  show wp l rho (d + 2) 175 5 [(2, 151), (0, 9)] [(0, 0)] h8 Q
  refine w_ifne (t := 13) gz_175_5 rfl (fun u11 => by exfalso; omega) (fun u11 => ?_)
  refine w_aload_n gz_175_8 rfl ?_
  refine w_iconst gz_175_9 (by decide) ?_
  refine w_inv (k := 0) (as := [(0, 1)]) (r := []) (x := 151) (ls0 := [(2, 151), (0, 1)]) gz_175_10 gm_178 rfl is_151 rd_10 rfl rfl rfl rfl rfl ?_
  refine w_aload_n gz_178_0 rfl ?_
  refine v_getI (j := 8) gz_178_1 rfl is_151 rd_10 rfl (fun v12 ev12 pv12 qv12 => ?_)
  have zv12 := ev12.trans ((my_up_fld fh8 (by decide)).trans cf)
  refine w_ifne (t := 25) gz_178_4 rfl (fun u13 => ?_) (fun u13 => by exfalso; omega)
  refine w_vret gz_178_25 gm_178 ?_
  show wp l rho (d + 2) 175 13 [(2, 151), (0, 9)] [] h8 Q
  have psR : h8 151 7 = h 151 7 := ps9
  have npsR : sm h8 = sm h := sm_eq (fun j => my_fr.at gh8 is_153 rfl) (fun j => my_fr.at gh8 is_154 rfl) (fun j => my_fr.at gh8 is_155 rfl)
  have ce14 : h8 151 7 = (v4 + 0) := (my_up_self fh8)
  have c15 := ev12.symm
  exact w_vret gz_175_13 gm_175 (k0 h8 (gh8) (by omega) (by omega) (by first | assumption | omega | (subst_vars; omega) | omega) (by first | assumption | omega | (subst_vars; omega) | omega) Tok_h8t10 Wd9_h8)
theorem c_Model_takeWord9_f0 {l : Launch} {rho : Nat → Int32} {d : Nat} {h : my_H} {Q : my_H → my_V → Prop} {x1 : Int} (a1 : 0 ≤ x1) (b1 : x1 ≤ 9) (cf : h 151 8 = 0) (n_Tok : Tok h) (n_Wd9 : Wd9 h) (k0 : ∀ (h' : my_H), my_fr [(10, 7), (10, 8)] h h' → 1 ≤ h' 151 8 → h' 151 8 ≤ 16001 → h 151 7 ≤ h' 151 7 → sW (sm h) (h 151 7) ≠ wm x1 → h' 151 8 = 1 + 16 * sP (sm h) (h 151 7) → Tok h' → Wd9 h' → Q h' (9, 0)) (k1 : ∀ (h' : my_H), my_fr [(10, 7), (10, 8)] h h' → 1 ≤ h' 151 7 → h' 151 7 ≤ 1001 → h' 151 8 = 0 → h 151 7 ≤ h' 151 7 → h' 151 7 = sN (sm h) (h 151 7) → sW (sm h) (h 151 7) = wm x1 → Tok h' → Wd9 h' → Q h' (9, 0)) : wp l rho (d + 2) 175 0 [(2, 151), (0, x1)] [] h Q := by
  refine v_know (x := 151) (j := 7) (b := 7) rfl is_151 rd_10 rfl (fun k151_7 ek151_7 pk151_7 qk151_7 => ?_)
  refine w_aload_n gz_175_0 rfl ?_
  refine w_iload_n gz_175_1 rfl ?_
  refine w_inv (k := 1) (as := [(0, x1)]) (r := []) (x := 151) (ls0 := [(2, 151), (0, x1), (9, 0)]) gz_175_2 gm_176 rfl is_151 rd_10 rfl rfl rfl rfl rfl ?_
  refine w_aload_n gz_176_0 rfl ?_
  refine w_iload_n gz_176_1 rfl ?_
  refine w_inv (k := 0) (as := [(0, x1)]) (r := []) (x := 151) (ls0 := [(2, 151), (0, x1)]) gz_176_2 gm_177 rfl is_151 rd_10 rfl rfl rfl rfl rfl (c_Model_isWord9_f0 (d := d) (x1 := x1) (by omega) (by omega) (cf.trans (by omega)) n_Wd9 (fun w1 xp2 => ?_) (fun w3 xp4 xp5 xp6 xp7 => ?_))
  ·
    show wp l rho (d + 1) 176 5 [(2, 151), (0, x1), (9, 0)] [(0, 0)] h _
    refine w_istore_n (ls' := [(2, 151), (0, x1), (0, 0)]) gz_176_5 gm_176 rfl rfl rfl ?_
    refine w_aload_n gz_176_6 rfl ?_
    refine w_dup gz_176_7 rfl ?_
    refine v_getI (j := 7) gz_176_8 rfl is_151 rd_10 rfl (fun v8 ev8 pv8 qv8 => ?_)
    have zv8 := ev8.trans ek151_7.symm
    refine w_iload_n gz_176_11 rfl ?_
    refine w_ifeq (t := 19) gz_176_12 rfl (fun u9 => ?_) (fun u9 => by exfalso; omega)
    refine w_iconst gz_176_19 (by decide) ?_
    refine w_iadd gz_176_20 ⟨by omega, by omega⟩ ?_
    have hi10 : 0 ≤ (v8 + 0) := by have q := Tok_at n_Tok; omega
    have hi11 : (v8 + 0) ≤ 1001 := by have q := Tok_at n_Tok; omega
    refine v_putI (j := 7) gz_176_21 rfl is_151 rd_10 rfl (by omega) (by omega) rfl (fun h12 fh12 => ?_)
    have gh12 : my_fr [(10, 7), (10, 8)] h h12 := my_fr.up my_fr.rf is_151 fh12 rfl
    have ps13 : h12 151 7 = h 151 7 := by
      rw [my_up_self fh12]
      omega
    have Wd9_h12 : Wd9 h12 := Wd9_ag (my_ag.up fh12 is_151 rfl) n_Wd9
    have Tok_h12t14 : Tok h12 := by first | exact Tok_inc n_Tok (by subst_vars; omega) (by omega) fh12 | exact Tok_set n_Tok (by omega) fh12 | omega
    refine w_iload_n gz_176_24 rfl ?_
    refine w_bret gz_176_25 gm_176 (by omega) (by omega) ?_
    show wp l rho (d + 2) 175 5 [(2, 151), (0, x1)] [(0, 0)] h12 Q
    refine w_ifne (t := 13) gz_175_5 rfl (fun u15 => by exfalso; omega) (fun u15 => ?_)
    refine w_aload_n gz_175_8 rfl ?_
    refine w_iconst gz_175_9 (by decide) ?_
    refine w_inv (k := 0) (as := [(0, 1)]) (r := []) (x := 151) (ls0 := [(2, 151), (0, 1)]) gz_175_10 gm_178 rfl is_151 rd_10 rfl rfl rfl rfl rfl ?_
    refine w_aload_n gz_178_0 rfl ?_
    refine v_getI (j := 8) gz_178_1 rfl is_151 rd_10 rfl (fun v16 ev16 pv16 qv16 => ?_)
    have zv16 := ev16.trans ((my_up_fld fh12 (by decide)).trans cf)
    refine w_ifne (t := 25) gz_178_4 rfl (fun u17 => by exfalso; omega) (fun u17 => ?_)
    refine w_aload_n gz_178_7 rfl ?_
    refine w_iload_n gz_178_8 rfl ?_
    refine w_bipush gz_178_9 (by decide) ?_
    refine w_aload_n gz_178_11 rfl ?_
    refine w_getX (v := 154) gz_178_12 is_151 rd_10 rfl (by decide) rfl ?_
    refine w_aload_n gz_178_15 rfl ?_
    refine v_getI (j := 7) gz_178_16 rfl is_151 rd_10 rfl (fun v19 ev19 pv19 qv19 => ?_)
    have zv19 := ev19.trans (my_up_self fh12)
    refine w_iald gz_178_19 is_154 rd_53 (by omega) (by omega) (fun v20 ev20 pv20 qv20 => ?_)
    have nz21a : h12 151 7 = h 151 7 := ps13
    have nz21 : v20 = sP (sm h) (h 151 7) := by
      have q := ev20.trans (my_fr.at (j := v19) gh12 is_154 rfl)
      rw [show (v19 : Int) = h 151 7 from by omega] at q
      exact q
    refine w_imul gz_178_20 ⟨by omega, by omega⟩ ?_
    refine w_iadd gz_178_21 ⟨by omega, by omega⟩ ?_
    refine v_putI (j := 8) gz_178_22 rfl is_151 rd_10 rfl (by omega) (by omega) rfl (fun h22 fh22 => ?_)
    have gh22 : my_fr [(10, 7), (10, 8)] h h22 := my_fr.up gh12 is_151 fh22 rfl
    have Wd9_h22 : Wd9 h22 := Wd9_ag (my_ag.up fh22 is_151 rfl) Wd9_h12
    have Tok_h22 : Tok h22 := Tok_ag (my_ag.up fh22 is_151 rfl) Tok_h12t14
    refine w_vret gz_178_25 gm_178 ?_
    show wp l rho (d + 2) 175 13 [(2, 151), (0, x1)] [] h22 Q
    have psR : h22 151 7 = h 151 7 := ((my_up_fld fh22 (by decide)).trans ps13)
    have npsR : sm h22 = sm h := sm_eq (fun j => my_fr.at gh22 is_153 rfl) (fun j => my_fr.at gh22 is_154 rfl) (fun j => my_fr.at gh22 is_155 rfl)
    have ce23 : h22 151 7 = v19 := ((my_up_fld fh22 (by decide)).trans ev19.symm)
    have c24 := (my_up_self fh22)
    exact w_vret gz_175_13 gm_175 (k0 h22 (gh22) (by omega) (by omega) (by first | assumption | omega | (subst_vars; omega) | omega) (by first | assumption | omega | (subst_vars; omega) | omega) (by first | assumption | omega | (subst_vars; omega) | omega) Tok_h22 Wd9_h22)
  ·
    show wp l rho (d + 1) 176 5 [(2, 151), (0, x1), (9, 0)] [(0, 1)] h _
    refine w_istore_n (ls' := [(2, 151), (0, x1), (0, 1)]) gz_176_5 gm_176 rfl rfl rfl ?_
    refine w_aload_n gz_176_6 rfl ?_
    refine w_dup gz_176_7 rfl ?_
    refine v_getI (j := 7) gz_176_8 rfl is_151 rd_10 rfl (fun v25 ev25 pv25 qv25 => ?_)
    have zv25 := ev25.trans ek151_7.symm
    refine w_iload_n gz_176_11 rfl ?_
    refine w_ifeq (t := 19) gz_176_12 rfl (fun u26 => by exfalso; omega) (fun u26 => ?_)
    refine w_iconst gz_176_15 (by decide) ?_
    refine w_goto (t := 20) gz_176_16 rfl ?_
    refine w_iadd gz_176_20 ⟨by omega, by omega⟩ ?_
    have hi27 : 0 ≤ (v25 + 1) := by have q := Tok_at n_Tok; omega
    have hi28 : (v25 + 1) ≤ 1001 := by have q := Tok_at n_Tok; omega
    refine v_putI (j := 7) gz_176_21 rfl is_151 rd_10 rfl (by omega) (by omega) rfl (fun h29 fh29 => ?_)
    have gh29 : my_fr [(10, 7), (10, 8)] h h29 := my_fr.up my_fr.rf is_151 fh29 rfl
    have ps30 : h29 151 7 = (sN (sm h) (h 151 7)) := by
      rw [my_up_self fh29]
      show (v25 + 1) = h 151 7 + 1
      omega
    have Wd9_h29 : Wd9 h29 := Wd9_ag (my_ag.up fh29 is_151 rfl) n_Wd9
    have Tok_h29t31 : Tok h29 := by first | exact Tok_inc n_Tok (by subst_vars; omega) (by omega) fh29 | exact Tok_set n_Tok (by omega) fh29 | omega
    refine w_iload_n gz_176_24 rfl ?_
    refine w_bret gz_176_25 gm_176 (by omega) (by omega) ?_
    show wp l rho (d + 2) 175 5 [(2, 151), (0, x1)] [(0, 1)] h29 Q
    refine w_ifne (t := 13) gz_175_5 rfl (fun u32 => ?_) (fun u32 => by exfalso; omega)
    have psR : h29 151 7 = (sN (sm h) (h 151 7)) := ps30
    have npsR : sm h29 = sm h := sm_eq (fun j => my_fr.at gh29 is_153 rfl) (fun j => my_fr.at gh29 is_154 rfl) (fun j => my_fr.at gh29 is_155 rfl)
    have ce33 : h29 151 7 = (v25 + 1) := (my_up_self fh29)
    have c34 := (my_up_self fh29)
    have c35 := ((my_up_fld fh29 (by decide)).trans cf)
    exact w_vret gz_175_13 gm_175 (k1 h29 (gh29) (by omega) (by omega) (by omega) (by first | assumption | omega | (subst_vars; omega) | omega) (by first | assumption | omega | (subst_vars; omega) | omega) (by first | assumption | omega | (subst_vars; omega) | omega) Tok_h29t31 Wd9_h29)
theorem c_Model_readCut9_f0 {l : Launch} {rho : Nat → Int32} {d : Nat} {h : my_H} {Q : my_H → my_V → Prop} {x1 : Int} {wv : Int} (a1 : 36 ≤ x1) (b1 : x1 ≤ 41) (cf : h 151 8 = 0) (hwv : wv ≤ 5) (hwv0 : 0 ≤ wv) (n_Tok : Tok h) (n_Mq : Mq h wv) (n_Wd9 : Wd9 h) (hp : x1 = 36 + h 167 6) (k0 : ∀ (h' : my_H), my_fr [(10, 7), (10, 8), (67, -1), (68, -1), (69, -1)] h h' → 1 ≤ h' 151 8 → h' 151 8 ≤ 16005 → h 151 7 ≤ h' 151 7 → cutM (sm h) (h 151 7) (h 151 27) (h' 151 8) (h' 151 7) → Ko h h' → Tok h' → Mq h' wv → Wd9 h' → Q h' (9, 0)) (k1 : ∀ (h' : my_H), my_fr [(10, 7), (10, 8), (67, -1), (68, -1), (69, -1)] h h' → 1 ≤ h' 151 7 → h' 151 7 ≤ 1001 → h' 151 8 = 0 → PaneOk h' x1 → Pk3 h' x1 (h' 151 27) → h 151 7 ≤ h' 151 7 → cutM (sm h) (h 151 7) (h 151 27) (h' 151 8) (h' 151 7) → h' 168 x1 ≤ 2 → Ko h h' → Tok h' → Mq h' wv → Wd9 h' → Q h' (9, 0)) : wp l rho (d + 2) 186 0 [(2, 151), (0, x1), (9, 0), (9, 0)] [] h Q := by
  refine v_know (x := 151) (j := 7) (b := 7) rfl is_151 rd_10 rfl (fun k151_7 ek151_7 pk151_7 qk151_7 => ?_)
  refine v_know (x := 151) (j := 27) (b := 27) rfl is_151 rd_10 rfl (fun k151_27 ek151_27 pk151_27 qk151_27 => ?_)
  have J20_0 : ∀ (n : Nat) (p20_0 p20_1 p20_2 : Int) (h20_0 : my_H), my_fr [(10, 7), (10, 8), (67, -1), (68, -1), (69, -1)] h h20_0 → (-1) ≤ p20_0 → p20_0 ≤ 2 → 0 ≤ p20_1 → p20_1 ≤ 3 → 0 ≤ p20_2 → p20_2 ≤ 16004 → p20_0 ≤ (p20_1 - 1) → h20_0 151 27 = k151_27 → h20_0 151 8 = p20_2 → Tok h20_0 → Mq h20_0 wv → Wd9 h20_0 → h20_0 167 6 = h 167 6 → Ko h h20_0 → (0 ≤ p20_0 → h20_0 153 (h20_0 151 7) = 1 ∧ h20_0 151 8 = 0) → h 151 7 ≤ h20_0 151 7 → (h20_0 151 8 = 0 → h20_0 169 x1 < k151_27) → cuA h h20_0 → cuB h h20_0 p20_0 p20_1 → 4 - p20_1 ≤ (n : Int) → wp l rho (d + 2) 186 20 [(2, 151), (0, x1), (0, p20_0), (0, p20_1)] [] h20_0 Q := by
    intro n
    induction n with
    | zero => intro p20_0 p20_1 p20_2 h20_0 gh_20_0 q0_20_0 q1_20_0 q2_20_0 q3_20_0 q4_20_0 q5_20_0 q6_20_0 c151_27_20_0 c151_8_20_0 n_Tok_20_0 n_Mq_20_0 n_Wd9_20_0 n_P6_20_0 n_Ko_20_0 kw_20_0 am_20_0 k9_20_0 ca_20_0 cb_20_0 hm_20_0; exfalso; omega
    | succ n ih_20_0 =>
      intro p20_0 p20_1 p20_2 h20_0 gh_20_0 q0_20_0 q1_20_0 q2_20_0 q3_20_0 q4_20_0 q5_20_0 q6_20_0 c151_27_20_0 c151_8_20_0 n_Tok_20_0 n_Mq_20_0 n_Wd9_20_0 n_P6_20_0 n_Ko_20_0 kw_20_0 am_20_0 k9_20_0 ca_20_0 cb_20_0 hm_20_0
      refine w_iload_n gz_186_20 rfl ?_
      refine w_iconst gz_186_21 (by decide) ?_
      refine w_icge (t := 47) gz_186_22 rfl (fun u1 => ?_) (fun u1 => ?_)
      ·
        refine w_iload_n gz_186_47 rfl ?_
        refine w_ifge (t := 57) gz_186_48 rfl (fun u2 => ?_) (fun u2 => ?_)
        ·
          refine w_aload_n gz_186_57 rfl ?_
          refine w_dup gz_186_58 rfl ?_
          refine v_getI (j := 7) gz_186_59 rfl is_151 rd_10 rfl (fun v3 ev3 pv3 qv3 => ?_)
          refine w_iconst gz_186_62 (by decide) ?_
          refine w_iadd gz_186_63 ⟨by omega, by omega⟩ ?_
          have hi4 : 0 ≤ (v3 + 1) := by have q := Tok_at n_Tok_20_0; omega
          have hi5 : (v3 + 1) ≤ 1001 := by have q := Tok_at n_Tok_20_0; omega
          refine v_putI (j := 7) gz_186_64 rfl is_151 rd_10 rfl (by omega) (by omega) rfl (fun h6 fh6 => ?_)
          have gh6 : my_fr [(10, 7), (10, 8), (67, -1), (68, -1), (69, -1)] h h6 := my_fr.up gh_20_0 is_151 fh6 rfl
          have ps7 : h6 151 7 = (sN (sm h) (h20_0 151 7)) := by
            rw [my_up_self fh6]
            show (v3 + 1) = h20_0 151 7 + 1
            omega
          have Mq_h6 : Mq h6 wv := Mq_ag (my_ag.up fh6 is_151 rfl) n_Mq_20_0
          have Wd9_h6 : Wd9 h6 := Wd9_ag (my_ag.up fh6 is_151 rfl) n_Wd9_20_0
          have P6_h6 : h6 167 6 = h 167 6 := P6_ag (my_ag.up fh6 is_151 rfl) n_P6_20_0
          have Ko_h6 : Ko h h6 := Ko_ag (my_ag.up fh6 is_151 rfl) n_Ko_20_0
          have Tok_h6t8 : Tok h6 := by first | exact Tok_inc n_Tok_20_0 (by subst_vars; omega) (by omega) fh6 | exact Tok_set n_Tok_20_0 (by omega) fh6 | omega
          have k7 := my_up_self fh6
          refine w_aload_n gz_186_67 rfl ?_
          refine w_getX (v := 168) gz_186_68 is_151 rd_10 rfl (by decide) rfl ?_
          refine w_iload_n gz_186_71 rfl ?_
          refine w_iload_n gz_186_72 rfl ?_
          refine w_iast gz_186_73 is_168 rd_67 (by omega) (by omega) (by omega) (by omega) (fun h10 fh10 => ?_)
          have gh10 : my_fr [(10, 7), (10, 8), (67, -1), (68, -1), (69, -1)] h h10 := my_fr.up gh6 is_168 fh10 rfl
          have Mq_h10 : Mq h10 wv := Mq_u (a := 168) hwv (by decide) (by omega) fh10 Mq_h6
          have Wd9_h10 : Wd9 h10 := Wd9_ag (my_ag.up fh10 is_168 rfl) Wd9_h6
          have P6_h10 : h10 167 6 = h 167 6 := P6_ag (my_ag.up fh10 is_168 rfl) P6_h6
          have Ko_h10 : Ko h h10 := Ko_u (a := 168) hwv (by decide) (by omega) fh10 Ko_h6
          have Tok_h10 : Tok h10 := Tok_ag (my_ag.up fh10 is_168 rfl) Tok_h6t8
          have k168 : h10 168 x1 = p20_0 := my_up_self fh10
          have ce11 : h10 151 7 = (v3 + 1) := ((my_up_role fh10 is_151 is_168 rfl).trans (my_up_self fh6))
          refine w_aload_n gz_186_74 rfl ?_
          refine w_getX (v := 170) gz_186_75 is_151 rd_10 rfl (by decide) rfl ?_
          refine w_iload_n gz_186_78 rfl ?_
          refine w_aload_n gz_186_79 rfl ?_
          refine w_sipush gz_186_80 (by decide) ?_
          have ce13 : h10 151 8 = p20_2 := ((my_up_role fh10 is_151 is_168 rfl).trans ((my_up_fld fh6 (by decide)).trans c151_8_20_0))
          refine w_inv (k := 0) (as := [(0, 199)]) (r := [(0, x1), (2, 170)]) (x := 151) (ls0 := [(2, 151), (0, 199)]) gz_186_83 gm_187 rfl is_151 rd_10 rfl rfl rfl rfl rfl (c_Model_takeNumber9_fq (d := d)  Tok_h10 (fun h14 frh14 w15 w16 xp17 xp18 Tok_h14t19 => ?_) (fun h20 v21 frh20 w22 w23 w24 w25 w26 xp27 xp28 xp29 xp30 xp31 xp32 xp33 xp34 Tok_h20t35 => ?_))
          ·
            have gh14 : my_fr [(10, 7), (10, 8), (67, -1), (68, -1), (69, -1)] h h14 := my_fr.tr gh10 (frh14.mo rfl)
            have Mq_h14 : Mq h14 wv := Mq_ag (my_ag.fr frh14 rfl) Mq_h10
            have Wd9_h14 : Wd9 h14 := Wd9_ag (my_ag.fr frh14 rfl) Wd9_h10
            have P6_h14 : h14 167 6 = h 167 6 := P6_ag (my_ag.fr frh14 rfl) P6_h10
            have Ko_h14 : Ko h h14 := Ko_ag (my_ag.fr frh14 rfl) Ko_h10
            show wp l rho (d + 2) 186 86 [(2, 151), (0, x1), (0, p20_0), (0, p20_1)] [(0, 0), (0, x1), (2, 170)] h14 Q
            have ps36 : h10 151 7 = (sN (sm h) (h20_0 151 7)) := ((my_up_role fh10 is_151 is_168 rfl).trans ps7)
            rw [ps36] at xp17
            have tE37 : sm h10 = sm h := sm_eq (fun j => my_fr.at gh10 is_153 rfl) (fun j => my_fr.at gh10 is_154 rfl) (fun j => my_fr.at gh10 is_155 rfl)
            rw [tE37] at xp18
            rw [ps36] at xp18
            have hi38 : 0 ≤ 0 := by omega
            have hi39 : 0 ≤ 199 := by omega
            refine w_iast gz_186_86 is_170 rd_69 (by omega) (by omega) (by omega) (by omega) (fun h40 fh40 => ?_)
            have gh40 : my_fr [(10, 7), (10, 8), (67, -1), (68, -1), (69, -1)] h h40 := my_fr.up gh14 is_170 fh40 rfl
            have Mq_h40 : Mq h40 wv := Mq_u (a := 170) hwv (by decide) (by omega) fh40 Mq_h14
            have Wd9_h40 : Wd9 h40 := Wd9_ag (my_ag.up fh40 is_170 rfl) Wd9_h14
            have P6_h40 : h40 167 6 = h 167 6 := P6_ag (my_ag.up fh40 is_170 rfl) P6_h14
            have Ko_h40 : Ko h h40 := Ko_u (a := 170) hwv (by decide) (by omega) fh40 Ko_h14
            have Tok_h40 : Tok h40 := Tok_ag (my_ag.up fh40 is_170 rfl) Tok_h14t19
            have psR : h40 151 7 = (((sN (sm h) (h20_0 151 7)))) := ((my_up_role fh40 is_151 is_170 rfl).trans xp17)
            have npsR : sm h40 = sm h := sm_eq (fun j => my_fr.at gh40 is_153 rfl) (fun j => my_fr.at gh40 is_154 rfl) (fun j => my_fr.at gh40 is_155 rfl)
            have ce41 : h40 151 7 = h14 151 7 := ((my_up_role fh40 is_151 is_170 rfl).trans (rfl : h14 151 7 = h14 151 7))
            have ce42 : h40 151 27 = k151_27 := ((my_up_role fh40 is_151 is_170 rfl).trans ((my_fr.at frh14 is_151 rfl).trans ((my_up_role fh10 is_151 is_168 rfl).trans ((my_up_fld fh6 (by decide)).trans c151_27_20_0))))
            have ce43 : h40 151 8 = (h14 151 8) := ((my_up_role fh40 is_151 is_170 rfl).trans (rfl : h14 151 8 = h14 151 8))
            have a168 : ∀ j : Int, h40 168 j = h10 168 j := fun j => ((my_up_role fh40 is_168 is_170 rfl).trans ((my_fr.at frh14 is_168 rfl).trans (rfl : h10 168 j = h10 168 j)))
            have a169 : ∀ j : Int, h40 169 j = h20_0 169 j := fun j => ((my_up_role fh40 is_169 is_170 rfl).trans ((my_fr.at frh14 is_169 rfl).trans ((my_up_role fh10 is_169 is_168 rfl).trans ((my_up_role fh6 is_169 is_151 rfl).trans (rfl : h20_0 169 j = h20_0 169 j)))))
            have c44 := ((my_up_role fh40 is_151 is_170 rfl).trans (rfl : h14 151 8 = h14 151 8))
            exact w_vret gz_186_87 gm_186 (k0 h40 (gh40) (by omega) (by omega) (by first | exact Ko_h40 | (rw [a168, k168]; omega) | exact cut_ok ca_20_0 (by rw [show (3 : Int) = p20_1 by omega]; exact cb_20_0) (by omega) (by omega) (by first | exact Or.inr (Or.inr ⟨by omega, by omega, ⟨by omega, by omega⟩⟩) | exact or_assoc.mp (Or.inl (by omega))) | exact cut_x1 ca_20_0 (by rw [show (3 : Int) = p20_1 by omega]; exact cb_20_0) (by omega) (by omega) (by omega) | exact cut_xf ca_20_0 (by omega) (by omega) | omega | (refine ⟨fun q => ?_, fun q => ?_⟩ <;> (rw [a168, k168] at q; omega)) | (refine ⟨fun q => ?_, fun q => ?_, fun q => ?_⟩ <;> first | (exfalso; rw [a168, k168] at q; omega) | (rw [a169]; have z := k9_20_0 (by omega); omega)) | omega) (by first | exact Ko_h40 | (rw [a168, k168]; omega) | exact cut_ok ca_20_0 (by rw [show (3 : Int) = p20_1 by omega]; exact cb_20_0) (by omega) (by omega) (by first | exact Or.inr (Or.inr ⟨by omega, by omega, ⟨by omega, by omega⟩⟩) | exact or_assoc.mp (Or.inl (by omega))) | exact cut_x1 ca_20_0 (by rw [show (3 : Int) = p20_1 by omega]; exact cb_20_0) (by omega) (by omega) (by omega) | exact cut_xf ca_20_0 (by omega) (by omega) | omega | (refine ⟨fun q => ?_, fun q => ?_⟩ <;> (rw [a168, k168] at q; omega)) | (refine ⟨fun q => ?_, fun q => ?_, fun q => ?_⟩ <;> first | (exfalso; rw [a168, k168] at q; omega) | (rw [a169]; have z := k9_20_0 (by omega); omega)) | omega) (by first | exact Ko_h40 | (rw [a168, k168]; omega) | exact cut_ok ca_20_0 (by rw [show (3 : Int) = p20_1 by omega]; exact cb_20_0) (by omega) (by omega) (by first | exact Or.inr (Or.inr ⟨by omega, by omega, ⟨by omega, by omega⟩⟩) | exact or_assoc.mp (Or.inl (by omega))) | exact cut_x1 ca_20_0 (by rw [show (3 : Int) = p20_1 by omega]; exact cb_20_0) (by omega) (by omega) (by omega) | exact cut_xf ca_20_0 (by omega) (by omega) | omega | (refine ⟨fun q => ?_, fun q => ?_⟩ <;> (rw [a168, k168] at q; omega)) | (refine ⟨fun q => ?_, fun q => ?_, fun q => ?_⟩ <;> first | (exfalso; rw [a168, k168] at q; omega) | (rw [a169]; have z := k9_20_0 (by omega); omega)) | omega) Tok_h40 Mq_h40 Wd9_h40)
          ·
            have gh20 : my_fr [(10, 7), (10, 8), (67, -1), (68, -1), (69, -1)] h h20 := my_fr.tr gh10 (frh20.mo rfl)
            have Mq_h20 : Mq h20 wv := Mq_ag (my_ag.fr frh20 rfl) Mq_h10
            have Wd9_h20 : Wd9 h20 := Wd9_ag (my_ag.fr frh20 rfl) Wd9_h10
            have P6_h20 : h20 167 6 = h 167 6 := P6_ag (my_ag.fr frh20 rfl) P6_h10
            have Ko_h20 : Ko h h20 := Ko_ag (my_ag.fr frh20 rfl) Ko_h10
            show wp l rho (d + 2) 186 86 [(2, 151), (0, x1), (0, p20_0), (0, p20_1)] [(0, v21), (0, x1), (2, 170)] h20 Q
            have ps45 : h10 151 7 = (sN (sm h) (h20_0 151 7)) := ((my_up_role fh10 is_151 is_168 rfl).trans ps7)
            rw [ps45] at xp29
            rw [ps45] at xp30
            rw [ps45] at xp31
            have tE46 : sm h10 = sm h := sm_eq (fun j => my_fr.at gh10 is_153 rfl) (fun j => my_fr.at gh10 is_154 rfl) (fun j => my_fr.at gh10 is_155 rfl)
            rw [tE46] at xp32
            rw [ps45] at xp32
            rw [tE46] at xp33
            rw [ps45] at xp33
            rw [tE46] at xp34
            rw [ps45] at xp34
            have hi47 : 0 ≤ v21 := by omega
            have hi48 : v21 ≤ 199 := by omega
            refine w_iast gz_186_86 is_170 rd_69 (by omega) (by omega) (by omega) (by omega) (fun h49 fh49 => ?_)
            have gh49 : my_fr [(10, 7), (10, 8), (67, -1), (68, -1), (69, -1)] h h49 := my_fr.up gh20 is_170 fh49 rfl
            have Mq_h49 : Mq h49 wv := Mq_u (a := 170) hwv (by decide) (by omega) fh49 Mq_h20
            have Wd9_h49 : Wd9 h49 := Wd9_ag (my_ag.up fh49 is_170 rfl) Wd9_h20
            have P6_h49 : h49 167 6 = h 167 6 := P6_ag (my_ag.up fh49 is_170 rfl) P6_h20
            have Ko_h49 : Ko h h49 := Ko_u (a := 170) hwv (by decide) (by omega) fh49 Ko_h20
            have Tok_h49 : Tok h49 := Tok_ag (my_ag.up fh49 is_170 rfl) Tok_h20t35
            have psR : h49 151 7 = (sN (sm h) (((sN (sm h) (h20_0 151 7))))) := ((my_up_role fh49 is_151 is_170 rfl).trans xp32)
            have npsR : sm h49 = sm h := sm_eq (fun j => my_fr.at gh49 is_153 rfl) (fun j => my_fr.at gh49 is_154 rfl) (fun j => my_fr.at gh49 is_155 rfl)
            have ce50 : h49 151 7 = (h20 151 7) := ((my_up_role fh49 is_151 is_170 rfl).trans (rfl : h20 151 7 = h20 151 7))
            have ce51 : h49 151 27 = k151_27 := ((my_up_role fh49 is_151 is_170 rfl).trans ((my_fr.at frh20 is_151 rfl).trans ((my_up_role fh10 is_151 is_168 rfl).trans ((my_up_fld fh6 (by decide)).trans c151_27_20_0))))
            have ce52 : h49 151 8 = 0 := ((my_up_role fh49 is_151 is_170 rfl).trans w26)
            have a168 : ∀ j : Int, h49 168 j = h10 168 j := fun j => ((my_up_role fh49 is_168 is_170 rfl).trans ((my_fr.at frh20 is_168 rfl).trans (rfl : h10 168 j = h10 168 j)))
            have a169 : ∀ j : Int, h49 169 j = h20_0 169 j := fun j => ((my_up_role fh49 is_169 is_170 rfl).trans ((my_fr.at frh20 is_169 rfl).trans ((my_up_role fh10 is_169 is_168 rfl).trans ((my_up_role fh6 is_169 is_151 rfl).trans (rfl : h20_0 169 j = h20_0 169 j)))))
            have c53 := ((my_up_role fh49 is_151 is_170 rfl).trans (rfl : h20 151 7 = h20 151 7))
            have c54 := ((my_up_role fh49 is_151 is_170 rfl).trans w26)
            exact w_vret gz_186_87 gm_186 (k1 h49 (gh49) (by omega) (by omega) (by omega) (by first | exact Ko_h49 | (rw [a168, k168]; omega) | exact cut_ok ca_20_0 (by rw [show (3 : Int) = p20_1 by omega]; exact cb_20_0) (by omega) (by omega) (by first | exact Or.inr (Or.inr ⟨by omega, by omega, ⟨by omega, by omega⟩⟩) | exact or_assoc.mp (Or.inl (by omega))) | exact cut_x1 ca_20_0 (by rw [show (3 : Int) = p20_1 by omega]; exact cb_20_0) (by omega) (by omega) (by omega) | exact cut_xf ca_20_0 (by omega) (by omega) | omega | (refine ⟨fun q => ?_, fun q => ?_⟩ <;> (rw [a168, k168] at q; omega)) | (refine ⟨fun q => ?_, fun q => ?_, fun q => ?_⟩ <;> first | (exfalso; rw [a168, k168] at q; omega) | (rw [a169]; have z := k9_20_0 (by omega); omega)) | omega) (by first | exact Ko_h49 | (rw [a168, k168]; omega) | exact cut_ok ca_20_0 (by rw [show (3 : Int) = p20_1 by omega]; exact cb_20_0) (by omega) (by omega) (by first | exact Or.inr (Or.inr ⟨by omega, by omega, ⟨by omega, by omega⟩⟩) | exact or_assoc.mp (Or.inl (by omega))) | exact cut_x1 ca_20_0 (by rw [show (3 : Int) = p20_1 by omega]; exact cb_20_0) (by omega) (by omega) (by omega) | exact cut_xf ca_20_0 (by omega) (by omega) | omega | (refine ⟨fun q => ?_, fun q => ?_⟩ <;> (rw [a168, k168] at q; omega)) | (refine ⟨fun q => ?_, fun q => ?_, fun q => ?_⟩ <;> first | (exfalso; rw [a168, k168] at q; omega) | (rw [a169]; have z := k9_20_0 (by omega); omega)) | omega) (by first | exact Ko_h49 | (rw [a168, k168]; omega) | exact cut_ok ca_20_0 (by rw [show (3 : Int) = p20_1 by omega]; exact cb_20_0) (by omega) (by omega) (by first | exact Or.inr (Or.inr ⟨by omega, by omega, ⟨by omega, by omega⟩⟩) | exact or_assoc.mp (Or.inl (by omega))) | exact cut_x1 ca_20_0 (by rw [show (3 : Int) = p20_1 by omega]; exact cb_20_0) (by omega) (by omega) (by omega) | exact cut_xf ca_20_0 (by omega) (by omega) | omega | (refine ⟨fun q => ?_, fun q => ?_⟩ <;> (rw [a168, k168] at q; omega)) | (refine ⟨fun q => ?_, fun q => ?_, fun q => ?_⟩ <;> first | (exfalso; rw [a168, k168] at q; omega) | (rw [a169]; have z := k9_20_0 (by omega); omega)) | omega) (by first | exact Ko_h49 | (rw [a168, k168]; omega) | exact cut_ok ca_20_0 (by rw [show (3 : Int) = p20_1 by omega]; exact cb_20_0) (by omega) (by omega) (by first | exact Or.inr (Or.inr ⟨by omega, by omega, ⟨by omega, by omega⟩⟩) | exact or_assoc.mp (Or.inl (by omega))) | exact cut_x1 ca_20_0 (by rw [show (3 : Int) = p20_1 by omega]; exact cb_20_0) (by omega) (by omega) (by omega) | exact cut_xf ca_20_0 (by omega) (by omega) | omega | (refine ⟨fun q => ?_, fun q => ?_⟩ <;> (rw [a168, k168] at q; omega)) | (refine ⟨fun q => ?_, fun q => ?_, fun q => ?_⟩ <;> first | (exfalso; rw [a168, k168] at q; omega) | (rw [a169]; have z := k9_20_0 (by omega); omega)) | omega) (by first | exact Ko_h49 | (rw [a168, k168]; omega) | exact cut_ok ca_20_0 (by rw [show (3 : Int) = p20_1 by omega]; exact cb_20_0) (by omega) (by omega) (by first | exact Or.inr (Or.inr ⟨by omega, by omega, ⟨by omega, by omega⟩⟩) | exact or_assoc.mp (Or.inl (by omega))) | exact cut_x1 ca_20_0 (by rw [show (3 : Int) = p20_1 by omega]; exact cb_20_0) (by omega) (by omega) (by omega) | exact cut_xf ca_20_0 (by omega) (by omega) | omega | (refine ⟨fun q => ?_, fun q => ?_⟩ <;> (rw [a168, k168] at q; omega)) | (refine ⟨fun q => ?_, fun q => ?_, fun q => ?_⟩ <;> first | (exfalso; rw [a168, k168] at q; omega) | (rw [a169]; have z := k9_20_0 (by omega); omega)) | omega) (by first | exact Ko_h49 | (rw [a168, k168]; omega) | exact cut_ok ca_20_0 (by rw [show (3 : Int) = p20_1 by omega]; exact cb_20_0) (by omega) (by omega) (by first | exact Or.inr (Or.inr ⟨by omega, by omega, ⟨by omega, by omega⟩⟩) | exact or_assoc.mp (Or.inl (by omega))) | exact cut_x1 ca_20_0 (by rw [show (3 : Int) = p20_1 by omega]; exact cb_20_0) (by omega) (by omega) (by omega) | exact cut_xf ca_20_0 (by omega) (by omega) | omega | (refine ⟨fun q => ?_, fun q => ?_⟩ <;> (rw [a168, k168] at q; omega)) | (refine ⟨fun q => ?_, fun q => ?_, fun q => ?_⟩ <;> first | (exfalso; rw [a168, k168] at q; omega) | (rw [a169]; have z := k9_20_0 (by omega); omega)) | omega) Tok_h49 Mq_h49 Wd9_h49)
        ·
          refine w_aload_n gz_186_51 rfl ?_
          refine w_iconst gz_186_52 (by decide) ?_
          refine w_inv (k := 0) (as := [(0, 1)]) (r := []) (x := 151) (ls0 := [(2, 151), (0, 1)]) gz_186_53 gm_178 rfl is_151 rd_10 rfl rfl rfl rfl rfl ?_
          refine w_aload_n gz_178_0 rfl ?_
          refine v_getI (j := 8) gz_178_1 rfl is_151 rd_10 rfl (fun v55 ev55 pv55 qv55 => ?_)
          have zv55 := ev55.trans c151_8_20_0
          refine w_ifne (t := 25) gz_178_4 rfl (fun u56 => ?_) (fun u56 => ?_)
          ·
            refine w_vret gz_178_25 gm_178 ?_
            show wp l rho (d + 2) 186 56 [(2, 151), (0, x1), (0, p20_0), (0, p20_1)] [] h20_0 Q
            have psR : h20_0 151 7 = h20_0 151 7 := (rfl : h20_0 151 7 = h20_0 151 7)
            have npsR : sm h20_0 = sm h := sm_eq (fun j => my_fr.at gh_20_0 is_153 rfl) (fun j => my_fr.at gh_20_0 is_154 rfl) (fun j => my_fr.at gh_20_0 is_155 rfl)
            have ce57 : h20_0 151 27 = k151_27 := c151_27_20_0
            have ce58 : h20_0 151 8 = v55 := ev55.symm
            have a168 : ∀ j : Int, h20_0 168 j = h20_0 168 j := fun j => rfl
            have a169 : ∀ j : Int, h20_0 169 j = h20_0 169 j := fun _ => rfl
            have c59 := ev55.symm
            exact w_vret gz_186_56 gm_186 (k0 h20_0 (gh_20_0) (by omega) (by omega) (by first | exact n_Ko_20_0 | (rw [a168, k168]; omega) | exact cut_ok ca_20_0 (by rw [show (3 : Int) = p20_1 by omega]; exact cb_20_0) (by omega) (by omega) (by first | exact Or.inr (Or.inr ⟨by omega, by omega, ⟨by omega, by omega⟩⟩) | exact or_assoc.mp (Or.inl (by omega))) | exact cut_x1 ca_20_0 (by rw [show (3 : Int) = p20_1 by omega]; exact cb_20_0) (by omega) (by omega) (by omega) | exact cut_xf ca_20_0 (by omega) (by omega) | omega | (refine ⟨fun q => ?_, fun q => ?_⟩ <;> (rw [a168, k168] at q; omega)) | (refine ⟨fun q => ?_, fun q => ?_, fun q => ?_⟩ <;> first | (exfalso; rw [a168, k168] at q; omega) | (rw [a169]; have z := k9_20_0 (by omega); omega)) | omega) (by first | exact n_Ko_20_0 | (rw [a168, k168]; omega) | exact cut_ok ca_20_0 (by rw [show (3 : Int) = p20_1 by omega]; exact cb_20_0) (by omega) (by omega) (by first | exact Or.inr (Or.inr ⟨by omega, by omega, ⟨by omega, by omega⟩⟩) | exact or_assoc.mp (Or.inl (by omega))) | exact cut_x1 ca_20_0 (by rw [show (3 : Int) = p20_1 by omega]; exact cb_20_0) (by omega) (by omega) (by omega) | exact cut_xf ca_20_0 (by omega) (by omega) | omega | (refine ⟨fun q => ?_, fun q => ?_⟩ <;> (rw [a168, k168] at q; omega)) | (refine ⟨fun q => ?_, fun q => ?_, fun q => ?_⟩ <;> first | (exfalso; rw [a168, k168] at q; omega) | (rw [a169]; have z := k9_20_0 (by omega); omega)) | omega) (by first | exact n_Ko_20_0 | (rw [a168, k168]; omega) | exact cut_ok ca_20_0 (by rw [show (3 : Int) = p20_1 by omega]; exact cb_20_0) (by omega) (by omega) (by first | exact Or.inr (Or.inr ⟨by omega, by omega, ⟨by omega, by omega⟩⟩) | exact or_assoc.mp (Or.inl (by omega))) | exact cut_x1 ca_20_0 (by rw [show (3 : Int) = p20_1 by omega]; exact cb_20_0) (by omega) (by omega) (by omega) | exact cut_xf ca_20_0 (by omega) (by omega) | omega | (refine ⟨fun q => ?_, fun q => ?_⟩ <;> (rw [a168, k168] at q; omega)) | (refine ⟨fun q => ?_, fun q => ?_, fun q => ?_⟩ <;> first | (exfalso; rw [a168, k168] at q; omega) | (rw [a169]; have z := k9_20_0 (by omega); omega)) | omega) n_Tok_20_0 n_Mq_20_0 n_Wd9_20_0)
          ·
            refine w_aload_n gz_178_7 rfl ?_
            refine w_iload_n gz_178_8 rfl ?_
            refine w_bipush gz_178_9 (by decide) ?_
            refine w_aload_n gz_178_11 rfl ?_
            refine w_getX (v := 154) gz_178_12 is_151 rd_10 rfl (by decide) rfl ?_
            refine w_aload_n gz_178_15 rfl ?_
            refine v_getI (j := 7) gz_178_16 rfl is_151 rd_10 rfl (fun v61 ev61 pv61 qv61 => ?_)
            refine w_iald gz_178_19 is_154 rd_53 (by omega) (by omega) (fun v62 ev62 pv62 qv62 => ?_)
            have nz63 : v62 = sP (sm h) (h20_0 151 7) := by
              have q := ev62.trans (my_fr.at (j := v61) gh_20_0 is_154 rfl)
              rw [show (v61 : Int) = h20_0 151 7 from by omega] at q
              exact q
            refine w_imul gz_178_20 ⟨by omega, by omega⟩ ?_
            refine w_iadd gz_178_21 ⟨by omega, by omega⟩ ?_
            refine v_putI (j := 8) gz_178_22 rfl is_151 rd_10 rfl (by omega) (by omega) rfl (fun h64 fh64 => ?_)
            have gh64 : my_fr [(10, 7), (10, 8), (67, -1), (68, -1), (69, -1)] h h64 := my_fr.up gh_20_0 is_151 fh64 rfl
            have Tok_h64 : Tok h64 := Tok_ag (my_ag.up fh64 is_151 rfl) n_Tok_20_0
            have Mq_h64 : Mq h64 wv := Mq_ag (my_ag.up fh64 is_151 rfl) n_Mq_20_0
            have Wd9_h64 : Wd9 h64 := Wd9_ag (my_ag.up fh64 is_151 rfl) n_Wd9_20_0
            have P6_h64 : h64 167 6 = h 167 6 := P6_ag (my_ag.up fh64 is_151 rfl) n_P6_20_0
            have Ko_h64 : Ko h h64 := Ko_ag (my_ag.up fh64 is_151 rfl) n_Ko_20_0
            refine w_vret gz_178_25 gm_178 ?_
            show wp l rho (d + 2) 186 56 [(2, 151), (0, x1), (0, p20_0), (0, p20_1)] [] h64 Q
            have psR : h64 151 7 = h20_0 151 7 := ((my_up_fld fh64 (by decide)).trans (rfl : h20_0 151 7 = h20_0 151 7))
            have npsR : sm h64 = sm h := sm_eq (fun j => my_fr.at gh64 is_153 rfl) (fun j => my_fr.at gh64 is_154 rfl) (fun j => my_fr.at gh64 is_155 rfl)
            have ce65 : h64 151 7 = v61 := ((my_up_fld fh64 (by decide)).trans ev61.symm)
            have ce66 : h64 151 27 = k151_27 := ((my_up_fld fh64 (by decide)).trans c151_27_20_0)
            have ce67 : h64 151 8 = (1 + (16 * v62)) := (my_up_self fh64)
            have a168 : ∀ j : Int, h64 168 j = h64 168 j := fun j => rfl
            have a169 : ∀ j : Int, h64 169 j = h20_0 169 j := fun j => ((my_up_role fh64 is_169 is_151 rfl).trans (rfl : h20_0 169 j = h20_0 169 j))
            have c68 := (my_up_self fh64)
            exact w_vret gz_186_56 gm_186 (k0 h64 (gh64) (by omega) (by omega) (by first | exact Ko_h64 | (rw [a168, k168]; omega) | exact cut_ok ca_20_0 (by rw [show (3 : Int) = p20_1 by omega]; exact cb_20_0) (by omega) (by omega) (by first | exact Or.inr (Or.inr ⟨by omega, by omega, ⟨by omega, by omega⟩⟩) | exact or_assoc.mp (Or.inl (by omega))) | exact cut_x1 ca_20_0 (by rw [show (3 : Int) = p20_1 by omega]; exact cb_20_0) (by omega) (by omega) (by omega) | exact cut_xf ca_20_0 (by omega) (by omega) | omega | (refine ⟨fun q => ?_, fun q => ?_⟩ <;> (rw [a168, k168] at q; omega)) | (refine ⟨fun q => ?_, fun q => ?_, fun q => ?_⟩ <;> first | (exfalso; rw [a168, k168] at q; omega) | (rw [a169]; have z := k9_20_0 (by omega); omega)) | omega) (by first | exact Ko_h64 | (rw [a168, k168]; omega) | exact cut_ok ca_20_0 (by rw [show (3 : Int) = p20_1 by omega]; exact cb_20_0) (by omega) (by omega) (by first | exact Or.inr (Or.inr ⟨by omega, by omega, ⟨by omega, by omega⟩⟩) | exact or_assoc.mp (Or.inl (by omega))) | exact cut_x1 ca_20_0 (by rw [show (3 : Int) = p20_1 by omega]; exact cb_20_0) (by omega) (by omega) (by omega) | exact cut_xf ca_20_0 (by omega) (by omega) | omega | (refine ⟨fun q => ?_, fun q => ?_⟩ <;> (rw [a168, k168] at q; omega)) | (refine ⟨fun q => ?_, fun q => ?_, fun q => ?_⟩ <;> first | (exfalso; rw [a168, k168] at q; omega) | (rw [a169]; have z := k9_20_0 (by omega); omega)) | omega) (by first | exact Ko_h64 | (rw [a168, k168]; omega) | exact cut_ok ca_20_0 (by rw [show (3 : Int) = p20_1 by omega]; exact cb_20_0) (by omega) (by omega) (by first | exact Or.inr (Or.inr ⟨by omega, by omega, ⟨by omega, by omega⟩⟩) | exact or_assoc.mp (Or.inl (by omega))) | exact cut_x1 ca_20_0 (by rw [show (3 : Int) = p20_1 by omega]; exact cb_20_0) (by omega) (by omega) (by omega) | exact cut_xf ca_20_0 (by omega) (by omega) | omega | (refine ⟨fun q => ?_, fun q => ?_⟩ <;> (rw [a168, k168] at q; omega)) | (refine ⟨fun q => ?_, fun q => ?_, fun q => ?_⟩ <;> first | (exfalso; rw [a168, k168] at q; omega) | (rw [a169]; have z := k9_20_0 (by omega); omega)) | omega) Tok_h64 Mq_h64 Wd9_h64)
      ·
        refine w_aload_n gz_186_25 rfl ?_
        refine w_iconst gz_186_26 (by decide) ?_
        refine w_iload_n gz_186_27 rfl ?_
        refine w_iadd gz_186_28 ⟨by omega, by omega⟩ ?_
        refine w_inv (k := 0) (as := [(0, (4 + p20_1))]) (r := []) (x := 151) (ls0 := [(2, 151), (0, (4 + p20_1))]) gz_186_29 gm_177 rfl is_151 rd_10 rfl rfl rfl rfl rfl (c_Model_isWord9_fq (d := (d + 1)) (x1 := (4 + p20_1)) (by omega) (by omega) n_Wd9_20_0 (fun w69 w70 xp71 => ?_) (fun w72 xp73 => ?_) (fun w74 xp75 xp76 xp77 xp78 => ?_))
        ·
          show wp l rho (d + 2) 186 32 [(2, 151), (0, x1), (0, p20_0), (0, p20_1)] [(0, 0)] h20_0 Q
          have tE79 : sm h20_0 = sm h := sm_eq (fun j => my_fr.at gh_20_0 is_153 rfl) (fun j => my_fr.at gh_20_0 is_154 rfl) (fun j => my_fr.at gh_20_0 is_155 rfl)
          rw [tE79] at xp71
          have wx := xp71
          refine w_ifeq (t := 39) gz_186_32 rfl (fun u80 => ?_) (fun u80 => by exfalso; omega)
          refine w_iload_n gz_186_39 rfl ?_
          refine w_istore_n (ls' := [(2, 151), (0, x1), (0, p20_0), (0, p20_1)]) gz_186_40 gm_186 rfl rfl rfl ?_
          refine w_iinc (ls' := [(2, 151), (0, x1), (0, p20_0), (0, (p20_1 + 1))]) gz_186_41 rfl gm_186 rfl rfl rfl ⟨by omega, by omega⟩ ?_
          refine w_goto (t := 20) gz_186_44 rfl ?_
          have psJ : h20_0 151 7 = h20_0 151 7 := (rfl : h20_0 151 7 = h20_0 151 7)
          have npsJ : sm h20_0 = sm h := sm_eq (fun j => my_fr.at gh_20_0 is_153 rfl) (fun j => my_fr.at gh_20_0 is_154 rfl) (fun j => my_fr.at gh_20_0 is_155 rfl)
          have ce81 : h20_0 151 8 = p20_2 := c151_8_20_0
          have a153 : ∀ j : Int, h20_0 153 j = h20_0 153 j := fun _ => rfl
          have a169 : ∀ j : Int, h20_0 169 j = h20_0 169 j := fun _ => rfl
          exact ih_20_0 (p20_0) ((p20_1 + 1)) (p20_2) h20_0 (gh_20_0) (by omega) (by omega) (by omega) (by omega) (by omega) (by omega) (by omega) (c151_27_20_0.trans (by omega)) (c151_8_20_0.trans (by omega)) n_Tok_20_0 n_Mq_20_0 n_Wd9_20_0 n_P6_20_0 n_Ko_20_0 (by first | omega | (intro q; rw [a153]; subst_vars; omega) | (subst_vars; omega) | (intro _; assumption) | omega) (by omega) (by first | (intro q; exfalso; omega) | (intro q; rw [a169, k169]; omega) | (intro q; rw [a169]; exact k9_20_0 (by omega)) | omega) (by first | exact ca_20_0 | exact cuA_0 (by omega) (by omega) (by omega) (by omega) | exact cuA_f (by omega) (by omega) | omega) (by first | exact cuB_0 (by omega) (by omega) | exact cuB_y (j := p20_1) (by omega) (by omega) (by omega) (by omega) wx | exact cuB_n cb_20_0 (by omega) (by omega) (by omega) wx | omega) (by omega)
        ·
          show wp l rho (d + 2) 186 32 [(2, 151), (0, x1), (0, p20_0), (0, p20_1)] [(0, 0)] h20_0 Q
          have tE82 : sm h20_0 = sm h := sm_eq (fun j => my_fr.at gh_20_0 is_153 rfl) (fun j => my_fr.at gh_20_0 is_154 rfl) (fun j => my_fr.at gh_20_0 is_155 rfl)
          rw [tE82] at xp73
          have wx := xp73
          refine w_ifeq (t := 39) gz_186_32 rfl (fun u83 => ?_) (fun u83 => by exfalso; omega)
          refine w_iload_n gz_186_39 rfl ?_
          refine w_istore_n (ls' := [(2, 151), (0, x1), (0, p20_0), (0, p20_1)]) gz_186_40 gm_186 rfl rfl rfl ?_
          refine w_iinc (ls' := [(2, 151), (0, x1), (0, p20_0), (0, (p20_1 + 1))]) gz_186_41 rfl gm_186 rfl rfl rfl ⟨by omega, by omega⟩ ?_
          refine w_goto (t := 20) gz_186_44 rfl ?_
          have psJ : h20_0 151 7 = h20_0 151 7 := (rfl : h20_0 151 7 = h20_0 151 7)
          have npsJ : sm h20_0 = sm h := sm_eq (fun j => my_fr.at gh_20_0 is_153 rfl) (fun j => my_fr.at gh_20_0 is_154 rfl) (fun j => my_fr.at gh_20_0 is_155 rfl)
          have ce84 : h20_0 151 8 = p20_2 := c151_8_20_0
          have a153 : ∀ j : Int, h20_0 153 j = h20_0 153 j := fun _ => rfl
          have a169 : ∀ j : Int, h20_0 169 j = h20_0 169 j := fun _ => rfl
          exact ih_20_0 (p20_0) ((p20_1 + 1)) (p20_2) h20_0 (gh_20_0) (by omega) (by omega) (by omega) (by omega) (by omega) (by omega) (by omega) (c151_27_20_0.trans (by omega)) (c151_8_20_0.trans (by omega)) n_Tok_20_0 n_Mq_20_0 n_Wd9_20_0 n_P6_20_0 n_Ko_20_0 (by first | omega | (intro q; rw [a153]; subst_vars; omega) | (subst_vars; omega) | (intro _; assumption) | omega) (by omega) (by first | (intro q; exfalso; omega) | (intro q; rw [a169, k169]; omega) | (intro q; rw [a169]; exact k9_20_0 (by omega)) | omega) (by first | exact ca_20_0 | exact cuA_0 (by omega) (by omega) (by omega) (by omega) | exact cuA_f (by omega) (by omega) | omega) (by first | exact cuB_0 (by omega) (by omega) | exact cuB_y (j := p20_1) (by omega) (by omega) (by omega) (by omega) wx | exact cuB_n cb_20_0 (by omega) (by omega) (by omega) wx | omega) (by omega)
        ·
          show wp l rho (d + 2) 186 32 [(2, 151), (0, x1), (0, p20_0), (0, p20_1)] [(0, 1)] h20_0 Q
          have tE85 : sm h20_0 = sm h := sm_eq (fun j => my_fr.at gh_20_0 is_153 rfl) (fun j => my_fr.at gh_20_0 is_154 rfl) (fun j => my_fr.at gh_20_0 is_155 rfl)
          rw [tE85] at xp78
          have wx := xp78
          refine w_ifeq (t := 39) gz_186_32 rfl (fun u86 => by exfalso; omega) (fun u86 => ?_)
          refine w_iload_n gz_186_35 rfl ?_
          refine w_goto (t := 40) gz_186_36 rfl ?_
          refine w_istore_n (ls' := [(2, 151), (0, x1), (0, p20_1), (0, p20_1)]) gz_186_40 gm_186 rfl rfl rfl ?_
          refine w_iinc (ls' := [(2, 151), (0, x1), (0, p20_1), (0, (p20_1 + 1))]) gz_186_41 rfl gm_186 rfl rfl rfl ⟨by omega, by omega⟩ ?_
          refine w_goto (t := 20) gz_186_44 rfl ?_
          have psJ : h20_0 151 7 = h20_0 151 7 := (rfl : h20_0 151 7 = h20_0 151 7)
          have npsJ : sm h20_0 = sm h := sm_eq (fun j => my_fr.at gh_20_0 is_153 rfl) (fun j => my_fr.at gh_20_0 is_154 rfl) (fun j => my_fr.at gh_20_0 is_155 rfl)
          have ce87 : h20_0 151 8 = p20_2 := c151_8_20_0
          have a153 : ∀ j : Int, h20_0 153 j = h20_0 153 j := fun _ => rfl
          have a169 : ∀ j : Int, h20_0 169 j = h20_0 169 j := fun _ => rfl
          exact ih_20_0 (p20_1) ((p20_1 + 1)) (p20_2) h20_0 (gh_20_0) (by omega) (by omega) (by omega) (by omega) (by omega) (by omega) (by omega) (c151_27_20_0.trans (by omega)) (c151_8_20_0.trans (by omega)) n_Tok_20_0 n_Mq_20_0 n_Wd9_20_0 n_P6_20_0 n_Ko_20_0 (by first | omega | (intro q; rw [a153]; subst_vars; omega) | (subst_vars; omega) | (intro _; assumption) | omega) (by omega) (by first | (intro q; exfalso; omega) | (intro q; rw [a169, k169]; omega) | (intro q; rw [a169]; exact k9_20_0 (by omega)) | omega) (by first | exact ca_20_0 | exact cuA_0 (by omega) (by omega) (by omega) (by omega) | exact cuA_f (by omega) (by omega) | omega) (by first | exact cuB_0 (by omega) (by omega) | exact cuB_y (j := p20_1) (by omega) (by omega) (by omega) (by omega) wx | exact cuB_n cb_20_0 (by omega) (by omega) (by omega) wx | omega) (by omega)
  refine w_aload_n gz_186_0 rfl ?_
  refine w_getX (v := 169) gz_186_1 is_151 rd_10 rfl (by decide) rfl ?_
  refine w_iload_n gz_186_4 rfl ?_
  refine w_aload_n gz_186_5 rfl ?_
  refine w_aload_n gz_186_6 rfl ?_
  refine v_getI (j := 27) gz_186_7 rfl is_151 rd_10 rfl (fun v89 ev89 pv89 qv89 => ?_)
  have zv89 := ev89.trans ek151_27.symm
  refine w_iconst gz_186_10 (by decide) ?_
  refine w_isub gz_186_11 ⟨by omega, by omega⟩ ?_
  refine w_inv (k := 0) (as := [(0, (v89 - 1))]) (r := [(0, x1), (2, 169)]) (x := 151) (ls0 := [(2, 151), (0, (v89 - 1))]) gz_186_12 gm_187 rfl is_151 rd_10 rfl rfl rfl rfl rfl (c_Model_takeNumber9_f0 (d := d) (x1 := (v89 - 1)) (by omega) (by omega) (cf.trans (by omega)) n_Tok (fun h90 frh90 w91 w92 xp93 xp94 Tok_h90t95 => ?_) (fun h96 v97 frh96 w98 w99 w100 w101 w102 xp103 xp104 xp105 xp106 xp107 xp108 xp109 xp110 Tok_h96t111 => ?_))
  ·
    have gh90 : my_fr [(10, 7), (10, 8), (67, -1), (68, -1), (69, -1)] h h90 := my_fr.tr my_fr.rf (frh90.mo rfl)
    have Mq_h90 : Mq h90 wv := Mq_ag (my_ag.fr frh90 rfl) n_Mq
    have Wd9_h90 : Wd9 h90 := Wd9_ag (my_ag.fr frh90 rfl) n_Wd9
    have P6_h90 : h90 167 6 = h 167 6 := P6_ag (my_ag.fr frh90 rfl) (rfl)
    have Ko_h90 : Ko h h90 := Ko_ag (my_ag.fr frh90 rfl) (Ko_rf)
    show wp l rho (d + 2) 186 15 [(2, 151), (0, x1), (9, 0), (9, 0)] [(0, 0), (0, x1), (2, 169)] h90 Q
    have hi112 : 0 ≤ 0 := by omega
    have hi113 : 0 ≤ 7 := by omega
    refine w_iast gz_186_15 is_169 rd_68 (by omega) (by omega) (by omega) (by omega) (fun h114 fh114 => ?_)
    have gh114 : my_fr [(10, 7), (10, 8), (67, -1), (68, -1), (69, -1)] h h114 := my_fr.up gh90 is_169 fh114 rfl
    have Mq_h114 : Mq h114 wv := Mq_u (a := 169) hwv (by decide) (by omega) fh114 Mq_h90
    have Wd9_h114 : Wd9 h114 := Wd9_ag (my_ag.up fh114 is_169 rfl) Wd9_h90
    have P6_h114 : h114 167 6 = h 167 6 := P6_ag (my_ag.up fh114 is_169 rfl) P6_h90
    have Ko_h114 : Ko h h114 := Ko_u (a := 169) hwv (by decide) (by omega) fh114 Ko_h90
    have Tok_h114 : Tok h114 := Tok_ag (my_ag.up fh114 is_169 rfl) Tok_h90t95
    have k169 := my_up_self fh114
    refine w_iconst gz_186_16 (by decide) ?_
    refine w_istore_n (ls' := [(2, 151), (0, x1), (0, (-1)), (9, 0)]) gz_186_17 gm_186 rfl rfl rfl ?_
    refine w_iconst gz_186_18 (by decide) ?_
    refine w_istore_n (ls' := [(2, 151), (0, x1), (0, (-1)), (0, 0)]) gz_186_19 gm_186 rfl rfl rfl ?_
    have psJ : h114 151 7 = (h 151 7) := ((my_up_role fh114 is_151 is_169 rfl).trans xp93)
    have npsJ : sm h114 = sm h := sm_eq (fun j => my_fr.at gh114 is_153 rfl) (fun j => my_fr.at gh114 is_154 rfl) (fun j => my_fr.at gh114 is_155 rfl)
    have ce115 : h114 151 7 = h90 151 7 := ((my_up_role fh114 is_151 is_169 rfl).trans (rfl : h90 151 7 = h90 151 7))
    have ce116 : h114 151 8 = (h90 151 8) := ((my_up_role fh114 is_151 is_169 rfl).trans (rfl : h90 151 8 = h90 151 8))
    have a153 : ∀ j : Int, h114 153 j = h 153 j := fun j => ((my_up_role fh114 is_153 is_169 rfl).trans ((my_fr.at frh90 is_153 rfl).trans (rfl : h 153 j = h 153 j)))
    have a169 : ∀ j : Int, h114 169 j = h114 169 j := fun j => rfl
    exact J20_0 4 ((-1)) (0) ((h90 151 8)) h114 (gh114) (by omega) (by omega) (by omega) (by omega) (by omega) (by omega) (by omega) (((my_up_role fh114 is_151 is_169 rfl).trans ((my_fr.at frh90 is_151 rfl).trans ev89.symm)).trans (by omega)) (((my_up_role fh114 is_151 is_169 rfl).trans (rfl : h90 151 8 = h90 151 8)).trans (by omega)) Tok_h114 Mq_h114 Wd9_h114 P6_h114 Ko_h114 (by first | omega | (intro q; rw [a153]; subst_vars; omega) | (subst_vars; omega) | (intro _; assumption) | omega) (by omega) (by first | (intro q; exfalso; omega) | (intro q; rw [a169, k169]; omega) | (intro q; rw [a169]; exact k9_20_0 (by omega)) | omega) (by first | exact ca_20_0 | exact cuA_0 (by omega) (by omega) (by omega) (by omega) | exact cuA_f (by omega) (by omega) | omega) (by first | exact cuB_0 (by omega) (by omega) | exact cuB_y (j := p20_1) (by omega) (by omega) (by omega) (by omega) wx | exact cuB_n cb_20_0 (by omega) (by omega) (by omega) wx | omega) (by omega)
  ·
    have gh96 : my_fr [(10, 7), (10, 8), (67, -1), (68, -1), (69, -1)] h h96 := my_fr.tr my_fr.rf (frh96.mo rfl)
    have Mq_h96 : Mq h96 wv := Mq_ag (my_ag.fr frh96 rfl) n_Mq
    have Wd9_h96 : Wd9 h96 := Wd9_ag (my_ag.fr frh96 rfl) n_Wd9
    have P6_h96 : h96 167 6 = h 167 6 := P6_ag (my_ag.fr frh96 rfl) (rfl)
    have Ko_h96 : Ko h h96 := Ko_ag (my_ag.fr frh96 rfl) (Ko_rf)
    show wp l rho (d + 2) 186 15 [(2, 151), (0, x1), (9, 0), (9, 0)] [(0, v97), (0, x1), (2, 169)] h96 Q
    have hi117 : 0 ≤ v97 := by omega
    have hi118 : v97 ≤ 7 := by omega
    refine w_iast gz_186_15 is_169 rd_68 (by omega) (by omega) (by omega) (by omega) (fun h119 fh119 => ?_)
    have gh119 : my_fr [(10, 7), (10, 8), (67, -1), (68, -1), (69, -1)] h h119 := my_fr.up gh96 is_169 fh119 rfl
    have Mq_h119 : Mq h119 wv := Mq_u (a := 169) hwv (by decide) (by omega) fh119 Mq_h96
    have Wd9_h119 : Wd9 h119 := Wd9_ag (my_ag.up fh119 is_169 rfl) Wd9_h96
    have P6_h119 : h119 167 6 = h 167 6 := P6_ag (my_ag.up fh119 is_169 rfl) P6_h96
    have Ko_h119 : Ko h h119 := Ko_u (a := 169) hwv (by decide) (by omega) fh119 Ko_h96
    have Tok_h119 : Tok h119 := Tok_ag (my_ag.up fh119 is_169 rfl) Tok_h96t111
    have k169 := my_up_self fh119
    refine w_iconst gz_186_16 (by decide) ?_
    refine w_istore_n (ls' := [(2, 151), (0, x1), (0, (-1)), (9, 0)]) gz_186_17 gm_186 rfl rfl rfl ?_
    refine w_iconst gz_186_18 (by decide) ?_
    refine w_istore_n (ls' := [(2, 151), (0, x1), (0, (-1)), (0, 0)]) gz_186_19 gm_186 rfl rfl rfl ?_
    have psJ : h119 151 7 = (sN (sm h) (h 151 7)) := ((my_up_role fh119 is_151 is_169 rfl).trans xp108)
    have npsJ : sm h119 = sm h := sm_eq (fun j => my_fr.at gh119 is_153 rfl) (fun j => my_fr.at gh119 is_154 rfl) (fun j => my_fr.at gh119 is_155 rfl)
    have ce120 : h119 151 7 = (h96 151 7) := ((my_up_role fh119 is_151 is_169 rfl).trans (rfl : h96 151 7 = h96 151 7))
    have ce121 : h119 151 8 = 0 := ((my_up_role fh119 is_151 is_169 rfl).trans w102)
    have a153 : ∀ j : Int, h119 153 j = h 153 j := fun j => ((my_up_role fh119 is_153 is_169 rfl).trans ((my_fr.at frh96 is_153 rfl).trans (rfl : h 153 j = h 153 j)))
    have a169 : ∀ j : Int, h119 169 j = h119 169 j := fun j => rfl
    exact J20_0 4 ((-1)) (0) (0) h119 (gh119) (by omega) (by omega) (by omega) (by omega) (by omega) (by omega) (by omega) (((my_up_role fh119 is_151 is_169 rfl).trans ((my_fr.at frh96 is_151 rfl).trans ev89.symm)).trans (by omega)) (((my_up_role fh119 is_151 is_169 rfl).trans w102).trans (by omega)) Tok_h119 Mq_h119 Wd9_h119 P6_h119 Ko_h119 (by first | omega | (intro q; rw [a153]; subst_vars; omega) | (subst_vars; omega) | (intro _; assumption) | omega) (by omega) (by first | (intro q; exfalso; omega) | (intro q; rw [a169, k169]; omega) | (intro q; rw [a169]; exact k9_20_0 (by omega)) | omega) (by first | exact ca_20_0 | exact cuA_0 (by omega) (by omega) (by omega) (by omega) | exact cuA_f (by omega) (by omega) | omega) (by first | exact cuB_0 (by omega) (by omega) | exact cuB_y (j := p20_1) (by omega) (by omega) (by omega) (by omega) wx | exact cuB_n cb_20_0 (by omega) (by omega) (by omega) wx | omega) (by omega)
end MYNModel_takeWord9_f1
