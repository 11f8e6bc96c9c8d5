/-! contracts, printed by wip/gen/gy.py -/
section MYNModel_takeWord9_f1
theorem c_Model_takeWord9_f1 {l : Launch} {rho : Nat → Int32} {d : Nat} {h : my_H} {Q : my_H → my_V → Prop} (xf : Int) (cf : h 151 8 = xf) (cf1 : 1 ≤ xf) (cf2 : xf ≤ 16005) (n_Tok : Tok h) (n_Wd9 : Wd9 h) (k0 : ∀ (h' : my_H), my_fr [(10, 7)] h h' → 1 ≤ h' 151 8 → h' 151 8 ≤ 16005 → h 151 7 ≤ h' 151 7 → h' 151 7 = h 151 7 → Tok h' → Wd9 h' → Q h' (9, 0)) : wp l rho (d + 2) 175 0 [(2, 151), (0, 9)] [] h Q := by
  refine v_know (x := 151) (j := 7) (b := 7) rfl is_151 rd_10 rfl (fun k151_7 ek151_7 pk151_7 qk151_7 => ?_)
  refine w_aload_n gz_175_0 rfl ?_
  refine w_iload_n gz_175_1 rfl ?_
  refine w_inv (k := 1) (as := [(0, 9)]) (r := []) (x := 151) (ls0 := [(2, 151), (0, 9), (9, 0)]) gz_175_2 gm_176 rfl is_151 rd_10 rfl rfl rfl rfl rfl ?_
  refine w_aload_n gz_176_0 rfl ?_
  refine w_iload_n gz_176_1 rfl ?_
  refine w_inv (k := 0) (as := [(0, 9)]) (r := []) (x := 151) (ls0 := [(2, 151), (0, 9)]) gz_176_2 gm_177 rfl is_151 rd_10 rfl rfl rfl rfl rfl (c_Model_isWord9_f1 (d := d) (x1 := 9) (by omega) (by omega) (xf) (cf) (by omega) (by omega) n_Wd9 (fun w1 w2 xp3 => ?_))
  show wp l rho (d + 1) 176 5 [(2, 151), (0, 9), (9, 0)] [(0, 0)] h _
  rw [show wm 9 = 99 from by decide] at xp3
  refine w_istore_n (ls' := [(2, 151), (0, 9), (0, 0)]) gz_176_5 gm_176 rfl rfl rfl ?_
  refine w_aload_n gz_176_6 rfl ?_
  refine w_dup gz_176_7 rfl ?_
  refine v_getI (j := 7) gz_176_8 rfl is_151 rd_10 rfl (fun v4 ev4 pv4 qv4 => ?_)
  have zv4 := ev4.trans ek151_7.symm
  refine w_iload_n gz_176_11 rfl ?_
  refine w_ifeq (t := 19) gz_176_12 rfl (fun u5 => ?_) (fun u5 => by exfalso; omega)
  refine w_iconst gz_176_19 (by decide) ?_
  refine w_iadd gz_176_20 ⟨by omega, by omega⟩ ?_
  have hi6 : 0 ≤ (v4 + 0) := by have q := Tok_at n_Tok; omega
  have hi7 : (v4 + 0) ≤ 1001 := by have q := Tok_at n_Tok; omega
  refine v_putI (j := 7) gz_176_21 rfl is_151 rd_10 rfl (by omega) (by omega) rfl (fun h8 fh8 => ?_)
  have gh8 : my_fr [(10, 7)] h h8 := my_fr.up my_fr.rf is_151 fh8 rfl
  have ps9 : h8 151 7 = h 151 7 := by
    rw [my_up_self fh8]
    omega
  have Wd9_h8 : Wd9 h8 := Wd9_ag (my_ag.up fh8 is_151 rfl) n_Wd9
  have Tok_h8t10 : Tok h8 := by first | exact Tok_inc n_Tok (by subst_vars; omega) (by omega) fh8 | exact Tok_set n_Tok (by omega) fh8 | omega
  refine w_iload_n gz_176_24 rfl ?_
  refine w_bret gz_176_25 gm_176 (by omega) (by omega) ?_
  show wp l rho (d + 2) 175 5 [(2, 151), (0, 9)] [(0, 0)] h8 Q
  refine w_ifne (t := 13) gz_175_5 rfl (fun u11 => by exfalso; omega) (fun u11 => ?_)
  refine w_aload_n gz_175_8 rfl ?_
  refine w_iconst gz_175_9 (by decide) ?_
  refine w_inv (k := 0) (as := [(0, 1)]) (r := []) (x := 151) (ls0 := [(2, 151), (0, 1)]) gz_175_10 gm_178 rfl is_151 rd_10 rfl rfl rfl rfl rfl ?_
  refine w_aload_n gz_178_0 rfl ?_
  refine v_getI (j := 8) gz_178_1 rfl is_151 rd_10 rfl (fun v12 ev12 pv12 qv12 => ?_)
  have zv12 := ev12.trans ((my_up_fld fh8 (by decide)).trans cf)
  refine w_ifne (t := 25) gz_178_4 rfl (fun u13 => ?_) (fun u13 => by exfalso; omega)
  refine w_vret gz_178_25 gm_178 ?_
  show wp l rho (d + 2) 175 13 [(2, 151), (0, 9)] [] h8 Q
  have psR : h8 151 7 = h 151 7 := ps9
  have npsR : sm h8 = sm h := sm_eq (fun j => my_fr.at gh8 is_153 rfl) (fun j => my_fr.at gh8 is_154 rfl) (fun j => my_fr.at gh8 is_155 rfl)
  have ce14 : h8 151 7 = (v4 + 0) := (my_up_self fh8)
  have c15 := ev12.symm
  exact w_vret gz_175_13 gm_175 (k0 h8 (gh8) (by omega) (by omega) (by first | assumption | omega | (subst_vars; omega) | omega) (by first | assumption | omega | (subst_vars; omega) | omega) Tok_h8t10 Wd9_h8)
theorem c_Model_takeWord9_f0 {l : Launch} {rho : Nat → Int32} {d : Nat} {h : my_H} {Q : my_H → my_V → Prop} {x1 : Int} (a1 : 0 ≤ x1) (b1 : x1 ≤ 9) (cf : h 151 8 = 0) (n_Tok : Tok h) (n_Wd9 : Wd9 h) (k0 : ∀ (h' : my_H), my_fr [(10, 7), (10, 8)] h h' → 1 ≤ h' 151 8 → h' 151 8 ≤ 16001 → h 151 7 ≤ h' 151 7 → sW (sm h) (h 151 7) ≠ wm x1 → h' 151 8 = 1 + 16 * sP (sm h) (h 151 7) → Tok h' → Wd9 h' → Q h' (9, 0)) (k1 : ∀ (h' : my_H), my_fr [(10, 7), (10, 8)] h h' → 1 ≤ h' 151 7 → h' 151 7 ≤ 1001 → h' 151 8 = 0 → h 151 7 ≤ h' 151 7 → h' 151 7 = sN (sm h) (h 151 7) → sW (sm h) (h 151 7) = wm x1 → Tok h' → Wd9 h' → Q h' (9, 0)) : wp l rho (d + 2) 175 0 [(2, 151), (0, x1)] [] h Q := by
  refine v_know (x := 151) (j := 7) (b := 7) rfl is_151 rd_10 rfl (fun k151_7 ek151_7 pk151_7 qk151_7 => ?_)
  refine w_aload_n gz_175_0 rfl ?_
  refine w_iload_n gz_175_1 rfl ?_
  refine w_inv (k := 1) (as := [(0, x1)]) (r := []) (x := 151) (ls0 := [(2, 151), (0, x1), (9, 0)]) gz_175_2 gm_176 rfl is_151 rd_10 rfl rfl rfl rfl rfl ?_
  refine w_aload_n gz_176_0 rfl ?_
  refine w_iload_n gz_176_1 rfl ?_
  refine w_inv (k := 0) (as := [(0, x1)]) (r := []) (x := 151) (ls0 := [(2, 151), (0, x1)]) gz_176_2 gm_177 rfl is_151 rd_10 rfl rfl rfl rfl rfl (c_Model_isWord9_f0 (d := d) (x1 := x1) (by omega) (by omega) (cf.trans (by omega)) n_Wd9 (fun w1 xp2 => ?_) (fun w3 xp4 xp5 xp6 xp7 => ?_))
  ·
    show wp l rho (d + 1) 176 5 [(2, 151), (0, x1), (9, 0)] [(0, 0)] h _
    refine w_istore_n (ls' := [(2, 151), (0, x1), (0, 0)]) gz_176_5 gm_176 rfl rfl rfl ?_
    refine w_aload_n gz_176_6 rfl ?_
    refine w_dup gz_176_7 rfl ?_
    refine v_getI (j := 7) gz_176_8 rfl is_151 rd_10 rfl (fun v8 ev8 pv8 qv8 => ?_)
    have zv8 := ev8.trans ek151_7.symm
    refine w_iload_n gz_176_11 rfl ?_
    refine w_ifeq (t := 19) gz_176_12 rfl (fun u9 => ?_) (fun u9 => by exfalso; omega)
    refine w_iconst gz_176_19 (by decide) ?_
    refine w_iadd gz_176_20 ⟨by omega, by omega⟩ ?_
    have hi10 : 0 ≤ (v8 + 0) := by have q := Tok_at n_Tok; omega
    have hi11 : (v8 + 0) ≤ 1001 := by have q := Tok_at n_Tok; omega
    refine v_putI (j := 7) gz_176_21 rfl is_151 rd_10 rfl (by omega) (by omega) rfl (fun h12 fh12 => ?_)
    have gh12 : my_fr [(10, 7), (10, 8)] h h12 := my_fr.up my_fr.rf is_151 fh12 rfl
    have ps13 : h12 151 7 = h 151 7 := by
      rw [my_up_self fh12]
      omega
    have Wd9_h12 : Wd9 h12 := Wd9_ag (my_ag.up fh12 is_151 rfl) n_Wd9
    have Tok_h12t14 : Tok h12 := by first | exact Tok_inc n_Tok (by subst_vars; omega) (by omega) fh12 | exact Tok_set n_Tok (by omega) fh12 | omega
    refine w_iload_n gz_176_24 rfl ?_
    refine w_bret gz_176_25 gm_176 (by omega) (by omega) ?_
    show wp l rho (d + 2) 175 5 [(2, 151), (0, x1)] [(0, 0)] h12 Q
    refine w_ifne (t := 13) gz_175_5 rfl (fun u15 => by exfalso; omega) (fun u15 => ?_)
    refine w_aload_n gz_175_8 rfl ?_
    refine w_iconst gz_175_9 (by decide) ?_
    refine w_inv (k := 0) (as := [(0, 1)]) (r := []) (x := 151) (ls0 := [(2, 151), (0, 1)]) gz_175_10 gm_178 rfl is_151 rd_10 rfl rfl rfl rfl rfl ?_
    refine w_aload_n gz_178_0 rfl ?_
    refine v_getI (j := 8) gz_178_1 rfl is_151 rd_10 rfl (fun v16 ev16 pv16 qv16 => ?_)
    have zv16 := ev16.trans ((my_up_fld fh12 (by decide)).trans cf)
    refine w_ifne (t := 25) gz_178_4 rfl (fun u17 => by exfalso; omega) (fun u17 => ?_)
    refine w_aload_n gz_178_7 rfl ?_
    refine w_iload_n gz_178_8 rfl ?_
    refine w_bipush gz_178_9 (by decide) ?_
    refine w_aload_n gz_178_11 rfl ?_
    refine w_getX (v := 154) gz_178_12 is_151 rd_10 rfl (by decide) rfl ?_
    refine w_aload_n gz_178_15 rfl ?_
    refine v_getI (j := 7) gz_178_16 rfl is_151 rd_10 rfl (fun v19 ev19 pv19 qv19 => ?_)
    have zv19 := ev19.trans (my_up_self fh12)
    refine w_iald gz_178_19 is_154 rd_53 (by omega) (by omega) (fun v20 ev20 pv20 qv20 => ?_)
    have nz21a : h12 151 7 = h 151 7 := ps13
    have nz21 : v20 = sP (sm h) (h 151 7) := by
      have q := ev20.trans (my_fr.at (j := v19) gh12 is_154 rfl)
      rw [show (v19 : Int) = h 151 7 from by omega] at q
      exact q
    refine w_imul gz_178_20 ⟨by omega, by omega⟩ ?_
    refine w_iadd gz_178_21 ⟨by omega, by omega⟩ ?_
    refine v_putI (j := 8) gz_178_22 rfl is_151 rd_10 rfl (by omega) (by omega) rfl (fun h22 fh22 => ?_)
    have gh22 : my_fr [(10, 7), (10, 8)] h h22 := my_fr.up gh12 is_151 fh22 rfl
    have Wd9_h22 : Wd9 h22 := Wd9_ag (my_ag.up fh22 is_151 rfl) Wd9_h12
    have Tok_h22 : Tok h22 := Tok_ag (my_ag.up fh22 is_151 rfl) Tok_h12t14
    refine w_vret gz_178_25 gm_178 ?_
    show wp l rho (d + 2) 175 13 [(2, 151), (0, x1)] [] h22 Q
    have psR : h22 151 7 = h 151 7 := ((my_up_fld fh22 (by decide)).trans ps13)
    have npsR : sm h22 = sm h := sm_eq (fun j => my_fr.at gh22 is_153 rfl) (fun j => my_fr.at gh22 is_154 rfl) (fun j => my_fr.at gh22 is_155 rfl)
    have ce23 : h22 151 7 = v19 := ((my_up_fld fh22 (by decide)).trans ev19.symm)
    have c24 := (my_up_self fh22)
    exact w_vret gz_175_13 gm_175 (k0 h22 (gh22) (by omega) (by omega) (by first | assumption | omega | (subst_vars; omega) | omega) (by first | assumption | omega | (subst_vars; omega) | omega) (by first | assumption | omega | (subst_vars; omega) | omega) Tok_h22 Wd9_h22)
  ·
    show wp l rho (d + 1) 176 5 [(2, 151), (0, x1), (9, 0)] [(0, 1)] h _
    refine w_istore_n (ls' := [(2, 151), (0, x1), (0, 1)]) gz_176_5 gm_176 rfl rfl rfl ?_
    refine w_aload_n gz_176_6 rfl ?_
    refine w_dup gz_176_7 rfl ?_
    refine v_getI (j := 7) gz_176_8 rfl is_151 rd_10 rfl (fun v25 ev25 pv25 qv25 => ?_)
    have zv25 := ev25.trans ek151_7.symm
    refine w_iload_n gz_176_11 rfl ?_
    refine w_ifeq (t := 19) gz_176_12 rfl (fun u26 => by exfalso; omega) (fun u26 => ?_)
    refine w_iconst gz_176_15 (by decide) ?_
    refine w_goto (t := 20) gz_176_16 rfl ?_
    refine w_iadd gz_176_20 ⟨by omega, by omega⟩ ?_
    have hi27 : 0 ≤ (v25 + 1) := by have q := Tok_at n_Tok; omega
    have hi28 : (v25 + 1) ≤ 1001 := by have q := Tok_at n_Tok; omega
    refine v_putI (j := 7) gz_176_21 rfl is_151 rd_10 rfl (by omega) (by omega) rfl (fun h29 fh29 => ?_)
    have gh29 : my_fr [(10, 7), (10, 8)] h h29 := my_fr.up my_fr.rf is_151 fh29 rfl
    have ps30 : h29 151 7 = (sN (sm h) (h 151 7)) := by
      rw [my_up_self fh29]
      show (v25 + 1) = h 151 7 + 1
      omega
    have Wd9_h29 : Wd9 h29 := Wd9_ag (my_ag.up fh29 is_151 rfl) n_Wd9
    have Tok_h29t31 : Tok h29 := by first | exact Tok_inc n_Tok (by subst_vars; omega) (by omega) fh29 | exact Tok_set n_Tok (by omega) fh29 | omega
    refine w_iload_n gz_176_24 rfl ?_
    refine w_bret gz_176_25 gm_176 (by omega) (by omega) ?_
    show wp l rho (d + 2) 175 5 [(2, 151), (0, x1)] [(0, 1)] h29 Q
    refine w_ifne (t := 13) gz_175_5 rfl (fun u32 => ?_) (fun u32 => by exfalso; omega)
    have psR : h29 151 7 = (sN (sm h) (h 151 7)) := ps30
    have npsR : sm h29 = sm h := sm_eq (fun j => my_fr.at gh29 is_153 rfl) (fun j => my_fr.at gh29 is_154 rfl) (fun j => my_fr.at gh29 is_155 rfl)
    have ce33 : h29 151 7 = (v25 + 1) := (my_up_self fh29)
    have c34 := (my_up_self fh29)
    have c35 := ((my_up_fld fh29 (by decide)).trans cf)
    exact w_vret gz_175_13 gm_175 (k1 h29 (gh29) (by omega) (by omega) (by omega) (by first | assumption | omega | (subst_vars; omega) | omega) (by first | assumption | omega | (subst_vars; omega) | omega) (by first | assumption | omega | (subst_vars; omega) | omega) Tok_h29t31 Wd9_h29)
theorem c_Model_readCut9_f0 {l : Launch} {rho : Nat → Int32} {d : Nat} {h : my_H} {Q : my_H → my_V → Prop} {x1 : Int} {wv : Int} (a1 : 36 ≤ x1) (b1 : x1 ≤ 41) (cf : h 151 8 = 0) (hwv : wv ≤ 5) (hwv0 : 0 ≤ wv) (n_Tok : Tok h) (n_Mq : Mq h wv) (n_Wd9 : Wd9 h) (hp : x1 = 36 + h 167 6) (k0 : ∀ (h' : my_H), my_fr [(10, 7), (10, 8), (67, -1), (68, -1), (69, -1)] h h' → 1 ≤ h' 151 8 → h' 151 8 ≤ 16005 → h 151 7 ≤ h' 151 7 → cutM (sm h) (h 151 7) (h 151 27) (h' 151 8) (h' 151 7) → Ko h h' → Tok h' → Mq h' wv → Wd9 h' → Q h' (9, 0)) (k1 : ∀ (h' : my_H), my_fr [(10, 7), (10, 8), (67, -1), (68, -1), (69, -1)] h h' → 1 ≤ h' 151 7 → h' 151 7 ≤ 1001 → h' 151 8 = 0 → PaneOk h' x1 → Pk3 h' x1 (h' 151 27) → h 151 7 ≤ h' 151 7 → cutM (sm h) (h 151 7) (h 151 27) (h' 151 8) (h' 151 7) → h' 168 x1 ≤ 2 → Ko h h' → Tok h' → Mq h' wv → Wd9 h' → Q h' (9, 0)) : wp l rho (d + 2) 186 0 [(2, 151), (0, x1), (9, 0), (9, 0)] [] h Q := by
  refine v_know (x := 151) (j := 7) (b := 7) rfl is_151 rd_10 rfl (fun k151_7 ek151_7 pk151_7 qk151_7 => ?_)
  refine v_know (x := 151) (j := 27) (b := 27) rfl is_151 rd_10 rfl (fun k151_27 ek151_27 pk151_27 qk151_27 => ?_)
  have J20_0 : ∀ (n : Nat) (p20_0 p20_1 p20_2 : Int) (h20_0 : my_H), my_fr [(10, 7), (10, 8), (67, -1), (68, -1), (69, -1)] h h20_0 → (-1) ≤ p20_0 → p20_0 ≤ 2 → 0 ≤ p20_1 → p20_1 ≤ 3 → 0 ≤ p20_2 → p20_2 ≤ 16004 → p20_0 ≤ (p20_1 - 1) → h20_0 151 27 = k151_27 → h20_0 151 8 = p20_2 → Tok h20_0 → Mq h20_0 wv → Wd9 h20_0 → h20_0 167 6 = h 167 6 → Ko h h20_0 → (0 ≤ p20_0 → h20_0 153 (h20_0 151 7) = 1 ∧ h20_0 151 8 = 0) → h 151 7 ≤ h20_0 151 7 → (h20_0 151 8 = 0 → h20_0 169 x1 < k151_27) → cuA h h20_0 → cuB h h20_0 p20_0 p20_1 → 4 - p20_1 ≤ (n : Int) → wp l rho (d + 2) 186 20 [(2, 151), (0, x1), (0, p20_0), (0, p20_1)] [] h20_0 Q := by
    intro n
    induction n with
    | zero => intro p20_0 p20_1 p20_2 h20_0 gh_20_0 q0_20_0 q1_20_0 q2_20_0 q3_20_0 q4_20_0 q5_20_0 q6_20_0 c151_27_20_0 c151_8_20_0 n_Tok_20_0 n_Mq_20_0 n_Wd9_20_0 n_P6_20_0 n_Ko_20_0 kw_20_0 am_20_0 k9_20_0 ca_20_0 cb_20_0 hm_20_0; exfalso; omega
    | succ n ih_20_0 =>
      intro p20_0 p20_1 p20_2 h20_0 gh_20_0 q0_20_0 q1_20_0 q2_20_0 q3_20_0 q4_20_0 q5_20_0 q6_20_0 c151_27_20_0 c151_8_20_0 n_Tok_20_0 n_Mq_20_0 n_Wd9_20_0 n_P6_20_0 n_Ko_20_0 kw_20_0 am_20_0 k9_20_0 ca_20_0 cb_20_0 hm_20_0
      refine w_iload_n gz_186_20 rfl ?_
      refine w_iconst gz_186_21 (by decide) ?_
      refine w_icge (t := 47) gz_186_22 rfl (fun u1 => ?_) (fun u1 => ?_)
      ·
        refine w_iload_n gz_186_47 rfl ?_
        refine w_ifge (t := 57) gz_186_48 rfl (fun u2 => ?_) (fun u2 => ?_)
        ·
          refine w_aload_n gz_186_57 rfl ?_
          refine w_dup gz_186_58 rfl ?_
          refine v_getI (j := 7) gz_186_59 rfl is_151 rd_10 rfl (fun v3 ev3 pv3 qv3 => ?_)
          refine w_iconst gz_186_62 (by decide) ?_
          refine w_iadd gz_186_63 ⟨by omega, by omega⟩ ?_
          have hi4 : 0 ≤ (v3 + 1) := by have q := Tok_at n_Tok_20_0; omega
          have hi5 : (v3 + 1) ≤ 1001 := by have q := Tok_at n_Tok_20_0; omega
          refine v_putI (j := 7) gz_186_64 rfl is_151 rd_10 rfl (by omega) (by omega) rfl (fun h6 fh6 => ?_)
          have gh6 : my_fr [(10, 7), (10, 8), (67, -1), (68, -1), (69, -1)] h h6 := my_fr.up gh_20_0 is_151 fh6 rfl
          have ps7 : h6 151 7 = (sN (sm h) (h20_0 151 7)) := by
            rw [my_up_self fh6]
            show (v3 + 1) = h20_0 151 7 + 1
            omega
          have Mq_h6 : Mq h6 wv := Mq_ag (my_ag.up fh6 is_151 rfl) n_Mq_20_0
          have Wd9_h6 : Wd9 h6 := Wd9_ag (my_ag.up fh6 is_151 rfl) n_Wd9_20_0
          have P6_h6 : h6 167 6 = h 167 6 := P6_ag (my_ag.up fh6 is_151 rfl) n_P6_20_0
          have Ko_h6 : Ko h h6 := Ko_ag (my_ag.up fh6 is_151 rfl) n_Ko_20_0
          have Tok_h6t8 : Tok h6 := by first | exact Tok_inc n_Tok_20_0 (by subst_vars; omega) (by omega) fh6 | exact Tok_set n_Tok_20_0 (by omega) fh6 | omega
          have k7 := my_up_self fh6
          refine w_aload_n gz_186_67 rfl ?_
          refine w_getX (v := 168) gz_186_68 is_151 rd_10 rfl (by decide) rfl ?_
          refine w_iload_n gz_186_71 rfl ?_
          refine w_iload_n gz_186_72 rfl ?_
          refine w_iast gz_186_73 is_168 rd_67 (by omega) (by omega) (by omega) (by omega) (fun h10 fh10 => ?_)
          have gh10 : my_fr [(10, 7), (10, 8), (67, -1), (68, -1), (69, -1)] h h10 := my_fr.up gh6 is_168 fh10 rfl
          have Mq_h10 : Mq h10 wv := Mq_u (a := 168) hwv (by decide) (by omega) fh10 Mq_h6
          have Wd9_h10 : Wd9 h10 := Wd9_ag (my_ag.up fh10 is_168 rfl) Wd9_h6
          have P6_h10 : h10 167 6 = h 167 6 := P6_ag (my_ag.up fh10 is_168 rfl) P6_h6
          have Ko_h10 : Ko h h10 := Ko_u (a := 168) hwv (by decide) (by omega) fh10 Ko_h6
          have Tok_h10 : Tok h10 := Tok_ag (my_ag.up fh10 is_168 rfl) Tok_h6t8
          have k168 : h10 168 x1 = p20_0 := my_up_self fh10
          have ce11 : h10 151 7 = (v3 + 1) := ((my_up_role fh10 is_151 is_168 rfl).trans (my_up_self fh6))
          refine w_aload_n gz_186_74 rfl ?_
          refine w_getX (v := 170) gz_186_75 is_151 rd_10 rfl (by decide) rfl ?_
          refine w_iload_n gz_186_78 rfl ?_
          refine w_aload_n gz_186_79 rfl ?_
          refine w_sipush gz_186_80 (by decide) ?_
          refine w_inv (k := 0) (as := [(0, 199)]) (r := [(0, x1), (2, 170)]) (x := 151) (ls0 := [(2, 151), (0, 199)]) gz_186_83 gm_187 rfl is_151 rd_10 rfl rfl rfl rfl rfl (c_Model_takeNumber9_fq (d := d)  Tok_h10 (fun h13 frh13 w14 w15 xp16 xp17 Tok_h13t18 => ?_) (fun h19 v20 frh19 w21 w22 w23 w24 w25 xp26 xp27 xp28 xp29 xp30 xp31 xp32 xp33 Tok_h19t34 => ?_))
          ·
            have gh13 : my_fr [(10, 7), (10, 8), (67, -1), (68, -1), (69, -1)] h h13 := my_fr.tr gh10 (frh13.mo rfl)
            have Mq_h13 : Mq h13 wv := Mq_ag (my_ag.fr frh13 rfl) Mq_h10
            have Wd9_h13 : Wd9 h13 := Wd9_ag (my_ag.fr frh13 rfl) Wd9_h10
            have P6_h13 : h13 167 6 = h 167 6 := P6_ag (my_ag.fr frh13 rfl) P6_h10
            have Ko_h13 : Ko h h13 := Ko_ag (my_ag.fr frh13 rfl) Ko_h10
            show wp l rho (d + 2) 186 86 [(2, 151), (0, x1), (0, p20_0), (0, p20_1)] [(0, 0), (0, x1), (2, 170)] h13 Q
            have ps35 : h10 151 7 = (sN (sm h) (h20_0 151 7)) := ((my_up_role fh10 is_151 is_168 rfl).trans ps7)
            rw [ps35] at xp16
            have tE36 : sm h10 = sm h := sm_eq (fun j => my_fr.at gh10 is_153 rfl) (fun j => my_fr.at gh10 is_154 rfl) (fun j => my_fr.at gh10 is_155 rfl)
            rw [tE36] at xp17
            rw [ps35] at xp17
            have hi37 : 0 ≤ 0 := by omega
            have hi38 : 0 ≤ 199 := by omega
            refine w_iast gz_186_86 is_170 rd_69 (by omega) (by omega) (by omega) (by omega) (fun h39 fh39 => ?_)
            have gh39 : my_fr [(10, 7), (10, 8), (67, -1), (68, -1), (69, -1)] h h39 := my_fr.up gh13 is_170 fh39 rfl
            have Mq_h39 : Mq h39 wv := Mq_u (a := 170) hwv (by decide) (by omega) fh39 Mq_h13
            have Wd9_h39 : Wd9 h39 := Wd9_ag (my_ag.up fh39 is_170 rfl) Wd9_h13
            have P6_h39 : h39 167 6 = h 167 6 := P6_ag (my_ag.up fh39 is_170 rfl) P6_h13
            have Ko_h39 : Ko h h39 := Ko_u (a := 170) hwv (by decide) (by omega) fh39 Ko_h13
            have Tok_h39 : Tok h39 := Tok_ag (my_ag.up fh39 is_170 rfl) Tok_h13t18
            have psR : h39 151 7 = (((sN (sm h) (h20_0 151 7)))) := ((my_up_role fh39 is_151 is_170 rfl).trans xp16)
            have npsR : sm h39 = sm h := sm_eq (fun j => my_fr.at gh39 is_153 rfl) (fun j => my_fr.at gh39 is_154 rfl) (fun j => my_fr.at gh39 is_155 rfl)
            have ce40 : h39 151 7 = h13 151 7 := ((my_up_role fh39 is_151 is_170 rfl).trans (rfl : h13 151 7 = h13 151 7))
            have ce41 : h39 151 27 = k151_27 := ((my_up_role fh39 is_151 is_170 rfl).trans ((my_fr.at frh13 is_151 rfl).trans ((my_up_role fh10 is_151 is_168 rfl).trans ((my_up_fld fh6 (by decide)).trans c151_27_20_0))))
            have ce42 : h39 151 8 = (h13 151 8) := ((my_up_role fh39 is_151 is_170 rfl).trans (rfl : h13 151 8 = h13 151 8))
            have a168 : ∀ j : Int, h39 168 j = h10 168 j := fun j => ((my_up_role fh39 is_168 is_170 rfl).trans ((my_fr.at frh13 is_168 rfl).trans (rfl : h10 168 j = h10 168 j)))
            have a169 : ∀ j : Int, h39 169 j = h20_0 169 j := fun j => ((my_up_role fh39 is_169 is_170 rfl).trans ((my_fr.at frh13 is_169 rfl).trans ((my_up_role fh10 is_169 is_168 rfl).trans ((my_up_role fh6 is_169 is_151 rfl).trans (rfl : h20_0 169 j = h20_0 169 j)))))
            have c43 := ((my_up_role fh39 is_151 is_170 rfl).trans (rfl : h13 151 8 = h13 151 8))
            exact w_vret gz_186_87 gm_186 (k0 h39 (gh39) (by omega) (by omega) (by first | exact Ko_h39 | (rw [a168, k168]; omega) | exact cut_ok ca_20_0 (by rw [show (3 : Int) = p20_1 by omega]; exact cb_20_0) (by omega) (by omega) (by first | exact Or.inr (Or.inr ⟨by omega, by omega, ⟨by omega, by omega⟩⟩) | exact or_assoc.mp (Or.inl (by omega))) | exact cut_x1 ca_20_0 (by rw [show (3 : Int) = p20_1 by omega]; exact cb_20_0) (by omega) (by omega) (by omega) | exact cut_xf ca_20_0 (by omega) (by omega) | omega | (refine ⟨fun q => ?_, fun q => ?_⟩ <;> (rw [a168, k168] at q; omega)) | (refine ⟨fun q => ?_, fun q => ?_, fun q => ?_⟩ <;> first | (exfalso; rw [a168, k168] at q; omega) | (rw [a169]; have z := k9_20_0 (by omega); omega)) | omega) (by first | exact Ko_h39 | (rw [a168, k168]; omega) | exact cut_ok ca_20_0 (by rw [show (3 : Int) = p20_1 by omega]; exact cb_20_0) (by omega) (by omega) (by first | exact Or.inr (Or.inr ⟨by omega, by omega, ⟨by omega, by omega⟩⟩) | exact or_assoc.mp (Or.inl (by omega))) | exact cut_x1 ca_20_0 (by rw [show (3 : Int) = p20_1 by omega]; exact cb_20_0) (by omega) (by omega) (by omega) | exact cut_xf ca_20_0 (by omega) (by omega) | omega | (refine ⟨fun q => ?_, fun q => ?_⟩ <;> (rw [a168, k168] at q; omega)) | (refine ⟨fun q => ?_, fun q => ?_, fun q => ?_⟩ <;> first | (exfalso; rw [a168, k168] at q; omega) | (rw [a169]; have z := k9_20_0 (by omega); omega)) | omega) (by first | exact Ko_h39 | (rw [a168, k168]; omega) | exact cut_ok ca_20_0 (by rw [show (3 : Int) = p20_1 by omega]; exact cb_20_0) (by omega) (by omega) (by first | exact Or.inr (Or.inr ⟨by omega, by omega, ⟨by omega, by omega⟩⟩) | exact or_assoc.mp (Or.inl (by omega))) | exact cut_x1 ca_20_0 (by rw [show (3 : Int) = p20_1 by omega]; exact cb_20_0) (by omega) (by omega) (by omega) | exact cut_xf ca_20_0 (by omega) (by omega) | omega | (refine ⟨fun q => ?_, fun q => ?_⟩ <;> (rw [a168, k168] at q; omega)) | (refine ⟨fun q => ?_, fun q => ?_, fun q => ?_⟩ <;> first | (exfalso; rw [a168, k168] at q; omega) | (rw [a169]; have z := k9_20_0 (by omega); omega)) | omega) Tok_h39 Mq_h39 Wd9_h39)
          ·
            have gh19 : my_fr [(10, 7), (10, 8), (67, -1), (68, -1), (69, -1)] h h19 := my_fr.tr gh10 (frh19.mo rfl)
            have Mq_h19 : Mq h19 wv := Mq_ag (my_ag.fr frh19 rfl) Mq_h10
            have Wd9_h19 : Wd9 h19 := Wd9_ag (my_ag.fr frh19 rfl) Wd9_h10
            have P6_h19 : h19 167 6 = h 167 6 := P6_ag (my_ag.fr frh19 rfl) P6_h10
            have Ko_h19 : Ko h h19 := Ko_ag (my_ag.fr frh19 rfl) Ko_h10
            show wp l rho (d + 2) 186 86 [(2, 151), (0, x1), (0, p20_0), (0, p20_1)] [(0, v20), (0, x1), (2, 170)] h19 Q
            have ps44 : h10 151 7 = (sN (sm h) (h20_0 151 7)) := ((my_up_role fh10 is_151 is_168 rfl).trans ps7)
            rw [ps44] at xp28
            rw [ps44] at xp29
            rw [ps44] at xp30
            have tE45 : sm h10 = sm h := sm_eq (fun j => my_fr.at gh10 is_153 rfl) (fun j => my_fr.at gh10 is_154 rfl) (fun j => my_fr.at gh10 is_155 rfl)
            rw [tE45] at xp31
            rw [ps44] at xp31
            rw [tE45] at xp32
            rw [ps44] at xp32
            rw [tE45] at xp33
            rw [ps44] at xp33
            have hi46 : 0 ≤ v20 := by omega
            have hi47 : v20 ≤ 199 := by omega
            refine w_iast gz_186_86 is_170 rd_69 (by omega) (by omega) (by omega) (by omega) (fun h48 fh48 => ?_)
            have gh48 : my_fr [(10, 7), (10, 8), (67, -1), (68, -1), (69, -1)] h h48 := my_fr.up gh19 is_170 fh48 rfl
            have Mq_h48 : Mq h48 wv := Mq_u (a := 170) hwv (by decide) (by omega) fh48 Mq_h19
            have Wd9_h48 : Wd9 h48 := Wd9_ag (my_ag.up fh48 is_170 rfl) Wd9_h19
            have P6_h48 : h48 167 6 = h 167 6 := P6_ag (my_ag.up fh48 is_170 rfl) P6_h19
            have Ko_h48 : Ko h h48 := Ko_u (a := 170) hwv (by decide) (by omega) fh48 Ko_h19
            have Tok_h48 : Tok h48 := Tok_ag (my_ag.up fh48 is_170 rfl) Tok_h19t34
            have psR : h48 151 7 = (sN (sm h) (((sN (sm h) (h20_0 151 7))))) := ((my_up_role fh48 is_151 is_170 rfl).trans xp31)
            have npsR : sm h48 = sm h := sm_eq (fun j => my_fr.at gh48 is_153 rfl) (fun j => my_fr.at gh48 is_154 rfl) (fun j => my_fr.at gh48 is_155 rfl)
            have ce49 : h48 151 7 = (h19 151 7) := ((my_up_role fh48 is_151 is_170 rfl).trans (rfl : h19 151 7 = h19 151 7))
            have ce50 : h48 151 27 = k151_27 := ((my_up_role fh48 is_151 is_170 rfl).trans ((my_fr.at frh19 is_151 rfl).trans ((my_up_role fh10 is_151 is_168 rfl).trans ((my_up_fld fh6 (by decide)).trans c151_27_20_0))))
            have ce51 : h48 151 8 = 0 := ((my_up_role fh48 is_151 is_170 rfl).trans w25)
            have a168 : ∀ j : Int, h48 168 j = h10 168 j := fun j => ((my_up_role fh48 is_168 is_170 rfl).trans ((my_fr.at frh19 is_168 rfl).trans (rfl : h10 168 j = h10 168 j)))
            have a169 : ∀ j : Int, h48 169 j = h20_0 169 j := fun j => ((my_up_role fh48 is_169 is_170 rfl).trans ((my_fr.at frh19 is_169 rfl).trans ((my_up_role fh10 is_169 is_168 rfl).trans ((my_up_role fh6 is_169 is_151 rfl).trans (rfl : h20_0 169 j = h20_0 169 j)))))
            have c52 := ((my_up_role fh48 is_151 is_170 rfl).trans (rfl : h19 151 7 = h19 151 7))
            have c53 := ((my_up_role fh48 is_151 is_170 rfl).trans w25)
            exact w_vret gz_186_87 gm_186 (k1 h48 (gh48) (by omega) (by omega) (by omega) (by first | exact Ko_h48 | (rw [a168, k168]; omega) | exact cut_ok ca_20_0 (by rw [show (3 : Int) = p20_1 by omega]; exact cb_20_0) (by omega) (by omega) (by first | exact Or.inr (Or.inr ⟨by omega, by omega, ⟨by omega, by omega⟩⟩) | exact or_assoc.mp (Or.inl (by omega))) | exact cut_x1 ca_20_0 (by rw [show (3 : Int) = p20_1 by omega]; exact cb_20_0) (by omega) (by omega) (by omega) | exact cut_xf ca_20_0 (by omega) (by omega) | omega | (refine ⟨fun q => ?_, fun q => ?_⟩ <;> (rw [a168, k168] at q; omega)) | (refine ⟨fun q => ?_, fun q => ?_, fun q => ?_⟩ <;> first | (exfalso; rw [a168, k168] at q; omega) | (rw [a169]; have z := k9_20_0 (by omega); omega)) | omega) (by first | exact Ko_h48 | (rw [a168, k168]; omega) | exact cut_ok ca_20_0 (by rw [show (3 : Int) = p20_1 by omega]; exact cb_20_0) (by omega) (by omega) (by first | exact Or.inr (Or.inr ⟨by omega, by omega, ⟨by omega, by omega⟩⟩) | exact or_assoc.mp (Or.inl (by omega))) | exact cut_x1 ca_20_0 (by rw [show (3 : Int) = p20_1 by omega]; exact cb_20_0) (by omega) (by omega) (by omega) | exact cut_xf ca_20_0 (by omega) (by omega) | omega | (refine ⟨fun q => ?_, fun q => ?_⟩ <;> (rw [a168, k168] at q; omega)) | (refine ⟨fun q => ?_, fun q => ?_, fun q => ?_⟩ <;> first | (exfalso; rw [a168, k168] at q; omega) | (rw [a169]; have z := k9_20_0 (by omega); omega)) | omega) (by first | exact Ko_h48 | (rw [a168, k168]; omega) | exact cut_ok ca_20_0 (by rw [show (3 : Int) = p20_1 by omega]; exact cb_20_0) (by omega) (by omega) (by first | exact Or.inr (Or.inr ⟨by omega, by omega, ⟨by omega, by omega⟩⟩) | exact or_assoc.mp (Or.inl (by omega))) | exact cut_x1 ca_20_0 (by rw [show (3 : Int) = p20_1 by omega]; exact cb_20_0) (by omega) (by omega) (by omega) | exact cut_xf ca_20_0 (by omega) (by omega) | omega | (refine ⟨fun q => ?_, fun q => ?_⟩ <;> (rw [a168, k168] at q; omega)) | (refine ⟨fun q => ?_, fun q => ?_, fun q => ?_⟩ <;> first | (exfalso; rw [a168, k168] at q; omega) | (rw [a169]; have z := k9_20_0 (by omega); omega)) | omega) (by first | exact Ko_h48 | (rw [a168, k168]; omega) | exact cut_ok ca_20_0 (by rw [show (3 : Int) = p20_1 by omega]; exact cb_20_0) (by omega) (by omega) (by first | exact Or.inr (Or.inr ⟨by omega, by omega, ⟨by omega, by omega⟩⟩) | exact or_assoc.mp (Or.inl (by omega))) | exact cut_x1 ca_20_0 (by rw [show (3 : Int) = p20_1 by omega]; exact cb_20_0) (by omega) (by omega) (by omega) | exact cut_xf ca_20_0 (by omega) (by omega) | omega | (refine ⟨fun q => ?_, fun q => ?_⟩ <;> (rw [a168, k168] at q; omega)) | (refine ⟨fun q => ?_, fun q => ?_, fun q => ?_⟩ <;> first | (exfalso; rw [a168, k168] at q; omega) | (rw [a169]; have z := k9_20_0 (by omega); omega)) | omega) (by first | exact Ko_h48 | (rw [a168, k168]; omega) | exact cut_ok ca_20_0 (by rw [show (3 : Int) = p20_1 by omega]; exact cb_20_0) (by omega) (by omega) (by first | exact Or.inr (Or.inr ⟨by omega, by omega, ⟨by omega, by omega⟩⟩) | exact or_assoc.mp (Or.inl (by omega))) | exact cut_x1 ca_20_0 (by rw [show (3 : Int) = p20_1 by omega]; exact cb_20_0) (by omega) (by omega) (by omega) | exact cut_xf ca_20_0 (by omega) (by omega) | omega | (refine ⟨fun q => ?_, fun q => ?_⟩ <;> (rw [a168, k168] at q; omega)) | (refine ⟨fun q => ?_, fun q => ?_, fun q => ?_⟩ <;> first | (exfalso; rw [a168, k168] at q; omega) | (rw [a169]; have z := k9_20_0 (by omega); omega)) | omega) (by first | exact Ko_h48 | (rw [a168, k168]; omega) | exact cut_ok ca_20_0 (by rw [show (3 : Int) = p20_1 by omega]; exact cb_20_0) (by omega) (by omega) (by first | exact Or.inr (Or.inr ⟨by omega, by omega, ⟨by omega, by omega⟩⟩) | exact or_assoc.mp (Or.inl (by omega))) | exact cut_x1 ca_20_0 (by rw [show (3 : Int) = p20_1 by omega]; exact cb_20_0) (by omega) (by omega) (by omega) | exact cut_xf ca_20_0 (by omega) (by omega) | omega | (refine ⟨fun q => ?_, fun q => ?_⟩ <;> (rw [a168, k168] at q; omega)) | (refine ⟨fun q => ?_, fun q => ?_, fun q => ?_⟩ <;> first | (exfalso; rw [a168, k168] at q; omega) | (rw [a169]; have z := k9_20_0 (by omega); omega)) | omega) Tok_h48 Mq_h48 Wd9_h48)
        ·
          refine w_aload_n gz_186_51 rfl ?_
          refine w_iconst gz_186_52 (by decide) ?_
          refine w_inv (k := 0) (as := [(0, 1)]) (r := []) (x := 151) (ls0 := [(2, 151), (0, 1)]) gz_186_53 gm_178 rfl is_151 rd_10 rfl rfl rfl rfl rfl ?_
          refine w_aload_n gz_178_0 rfl ?_
          refine v_getI (j := 8) gz_178_1 rfl is_151 rd_10 rfl (fun v54 ev54 pv54 qv54 => ?_)
          have zv54 := ev54.trans c151_8_20_0
          refine w_ifne (t := 25) gz_178_4 rfl (fun u55 => ?_) (fun u55 => ?_)
          ·
            refine w_vret gz_178_25 gm_178 ?_
            show wp l rho (d + 2) 186 56 [(2, 151), (0, x1), (0, p20_0), (0, p20_1)] [] h20_0 Q
            have psR : h20_0 151 7 = h20_0 151 7 := (rfl : h20_0 151 7 = h20_0 151 7)
            have npsR : sm h20_0 = sm h := sm_eq (fun j => my_fr.at gh_20_0 is_153 rfl) (fun j => my_fr.at gh_20_0 is_154 rfl) (fun j => my_fr.at gh_20_0 is_155 rfl)
            have ce56 : h20_0 151 27 = k151_27 := c151_27_20_0
            have ce57 : h20_0 151 8 = v54 := ev54.symm
            have a168 : ∀ j : Int, h20_0 168 j = h20_0 168 j := fun j => rfl
            have a169 : ∀ j : Int, h20_0 169 j = h20_0 169 j := fun _ => rfl
            have c58 := ev54.symm
            exact w_vret gz_186_56 gm_186 (k0 h20_0 (gh_20_0) (by omega) (by omega) (by first | exact n_Ko_20_0 | (rw [a168, k168]; omega) | exact cut_ok ca_20_0 (by rw [show (3 : Int) = p20_1 by omega]; exact cb_20_0) (by omega) (by omega) (by first | exact Or.inr (Or.inr ⟨by omega, by omega, ⟨by omega, by omega⟩⟩) | exact or_assoc.mp (Or.inl (by omega))) | exact cut_x1 ca_20_0 (by rw [show (3 : Int) = p20_1 by omega]; exact cb_20_0) (by omega) (by omega) (by omega) | exact cut_xf ca_20_0 (by omega) (by omega) | omega | (refine ⟨fun q => ?_, fun q => ?_⟩ <;> (rw [a168, k168] at q; omega)) | (refine ⟨fun q => ?_, fun q => ?_, fun q => ?_⟩ <;> first | (exfalso; rw [a168, k168] at q; omega) | (rw [a169]; have z := k9_20_0 (by omega); omega)) | omega) (by first | exact n_Ko_20_0 | (rw [a168, k168]; omega) | exact cut_ok ca_20_0 (by rw [show (3 : Int) = p20_1 by omega]; exact cb_20_0) (by omega) (by omega) (by first | exact Or.inr (Or.inr ⟨by omega, by omega, ⟨by omega, by omega⟩⟩) | exact or_assoc.mp (Or.inl (by omega))) | exact cut_x1 ca_20_0 (by rw [show (3 : Int) = p20_1 by omega]; exact cb_20_0) (by omega) (by omega) (by omega) | exact cut_xf ca_20_0 (by omega) (by omega) | omega | (refine ⟨fun q => ?_, fun q => ?_⟩ <;> (rw [a168, k168] at q; omega)) | (refine ⟨fun q => ?_, fun q => ?_, fun q => ?_⟩ <;> first | (exfalso; rw [a168, k168] at q; omega) | (rw [a169]; have z := k9_20_0 (by omega); omega)) | omega) (by first | exact n_Ko_20_0 | (rw [a168, k168]; omega) | exact cut_ok ca_20_0 (by rw [show (3 : Int) = p20_1 by omega]; exact cb_20_0) (by omega) (by omega) (by first | exact Or.inr (Or.inr ⟨by omega, by omega, ⟨by omega, by omega⟩⟩) | exact or_assoc.mp (Or.inl (by omega))) | exact cut_x1 ca_20_0 (by rw [show (3 : Int) = p20_1 by omega]; exact cb_20_0) (by omega) (by omega) (by omega) | exact cut_xf ca_20_0 (by omega) (by omega) | omega | (refine ⟨fun q => ?_, fun q => ?_⟩ <;> (rw [a168, k168] at q; omega)) | (refine ⟨fun q => ?_, fun q => ?_, fun q => ?_⟩ <;> first | (exfalso; rw [a168, k168] at q; omega) | (rw [a169]; have z := k9_20_0 (by omega); omega)) | omega) n_Tok_20_0 n_Mq_20_0 n_Wd9_20_0)
          ·
            refine w_aload_n gz_178_7 rfl ?_
            refine w_iload_n gz_178_8 rfl ?_
            refine w_bipush gz_178_9 (by decide) ?_
            refine w_aload_n gz_178_11 rfl ?_
            refine w_getX (v := 154) gz_178_12 is_151 rd_10 rfl (by decide) rfl ?_
            refine w_aload_n gz_178_15 rfl ?_
            refine v_getI (j := 7) gz_178_16 rfl is_151 rd_10 rfl (fun v60 ev60 pv60 qv60 => ?_)
            refine w_iald gz_178_19 is_154 rd_53 (by omega) (by omega) (fun v61 ev61 pv61 qv61 => ?_)
            have nz62 : v61 = sP (sm h) (h20_0 151 7) := by
              have q := ev61.trans (my_fr.at (j := v60) gh_20_0 is_154 rfl)
              rw [show (v60 : Int) = h20_0 151 7 from by omega] at q
              exact q
            refine w_imul gz_178_20 ⟨by omega, by omega⟩ ?_
            refine w_iadd gz_178_21 ⟨by omega, by omega⟩ ?_
            refine v_putI (j := 8) gz_178_22 rfl is_151 rd_10 rfl (by omega) (by omega) rfl (fun h63 fh63 => ?_)
            have gh63 : my_fr [(10, 7), (10, 8), (67, -1), (68, -1), (69, -1)] h h63 := my_fr.up gh_20_0 is_151 fh63 rfl
            have Tok_h63 : Tok h63 := Tok_ag (my_ag.up fh63 is_151 rfl) n_Tok_20_0
            have Mq_h63 : Mq h63 wv := Mq_ag (my_ag.up fh63 is_151 rfl) n_Mq_20_0
            have Wd9_h63 : Wd9 h63 := Wd9_ag (my_ag.up fh63 is_151 rfl) n_Wd9_20_0
            have P6_h63 : h63 167 6 = h 167 6 := P6_ag (my_ag.up fh63 is_151 rfl) n_P6_20_0
            have Ko_h63 : Ko h h63 := Ko_ag (my_ag.up fh63 is_151 rfl) n_Ko_20_0
            refine w_vret gz_178_25 gm_178 ?_
            show wp l rho (d + 2) 186 56 [(2, 151), (0, x1), (0, p20_0), (0, p20_1)] [] h63 Q
            have psR : h63 151 7 = h20_0 151 7 := ((my_up_fld fh63 (by decide)).trans (rfl : h20_0 151 7 = h20_0 151 7))
            have npsR : sm h63 = sm h := sm_eq (fun j => my_fr.at gh63 is_153 rfl) (fun j => my_fr.at gh63 is_154 rfl) (fun j => my_fr.at gh63 is_155 rfl)
            have ce64 : h63 151 7 = v60 := ((my_up_fld fh63 (by decide)).trans ev60.symm)
            have ce65 : h63 151 27 = k151_27 := ((my_up_fld fh63 (by decide)).trans c151_27_20_0)
            have ce66 : h63 151 8 = (1 + (16 * v61)) := (my_up_self fh63)
            have a168 : ∀ j : Int, h63 168 j = h63 168 j := fun j => rfl
            have a169 : ∀ j : Int, h63 169 j = h20_0 169 j := fun j => ((my_up_role fh63 is_169 is_151 rfl).trans (rfl : h20_0 169 j = h20_0 169 j))
            have c67 := (my_up_self fh63)
            exact w_vret gz_186_56 gm_186 (k0 h63 (gh63) (by omega) (by omega) (by first | exact Ko_h63 | (rw [a168, k168]; omega) | exact cut_ok ca_20_0 (by rw [show (3 : Int) = p20_1 by omega]; exact cb_20_0) (by omega) (by omega) (by first | exact Or.inr (Or.inr ⟨by omega, by omega, ⟨by omega, by omega⟩⟩) | exact or_assoc.mp (Or.inl (by omega))) | exact cut_x1 ca_20_0 (by rw [show (3 : Int) = p20_1 by omega]; exact cb_20_0) (by omega) (by omega) (by omega) | exact cut_xf ca_20_0 (by omega) (by omega) | omega | (refine ⟨fun q => ?_, fun q => ?_⟩ <;> (rw [a168, k168] at q; omega)) | (refine ⟨fun q => ?_, fun q => ?_, fun q => ?_⟩ <;> first | (exfalso; rw [a168, k168] at q; omega) | (rw [a169]; have z := k9_20_0 (by omega); omega)) | omega) (by first | exact Ko_h63 | (rw [a168, k168]; omega) | exact cut_ok ca_20_0 (by rw [show (3 : Int) = p20_1 by omega]; exact cb_20_0) (by omega) (by omega) (by first | exact Or.inr (Or.inr ⟨by omega, by omega, ⟨by omega, by omega⟩⟩) | exact or_assoc.mp (Or.inl (by omega))) | exact cut_x1 ca_20_0 (by rw [show (3 : Int) = p20_1 by omega]; exact cb_20_0) (by omega) (by omega) (by omega) | exact cut_xf ca_20_0 (by omega) (by omega) | omega | (refine ⟨fun q => ?_, fun q => ?_⟩ <;> (rw [a168, k168] at q; omega)) | (refine ⟨fun q => ?_, fun q => ?_, fun q => ?_⟩ <;> first | (exfalso; rw [a168, k168] at q; omega) | (rw [a169]; have z := k9_20_0 (by omega); omega)) | omega) (by first | exact Ko_h63 | (rw [a168, k168]; omega) | exact cut_ok ca_20_0 (by rw [show (3 : Int) = p20_1 by omega]; exact cb_20_0) (by omega) (by omega) (by first | exact Or.inr (Or.inr ⟨by omega, by omega, ⟨by omega, by omega⟩⟩) | exact or_assoc.mp (Or.inl (by omega))) | exact cut_x1 ca_20_0 (by rw [show (3 : Int) = p20_1 by omega]; exact cb_20_0) (by omega) (by omega) (by omega) | exact cut_xf ca_20_0 (by omega) (by omega) | omega | (refine ⟨fun q => ?_, fun q => ?_⟩ <;> (rw [a168, k168] at q; omega)) | (refine ⟨fun q => ?_, fun q => ?_, fun q => ?_⟩ <;> first | (exfalso; rw [a168, k168] at q; omega) | (rw [a169]; have z := k9_20_0 (by omega); omega)) | omega) Tok_h63 Mq_h63 Wd9_h63)
      ·
        refine w_aload_n gz_186_25 rfl ?_
        refine w_iconst gz_186_26 (by decide) ?_
        refine w_iload_n gz_186_27 rfl ?_
        refine w_iadd gz_186_28 ⟨by omega, by omega⟩ ?_
        refine w_inv (k := 0) (as := [(0, (4 + p20_1))]) (r := []) (x := 151) (ls0 := [(2, 151), (0, (4 + p20_1))]) gz_186_29 gm_177 rfl is_151 rd_10 rfl rfl rfl rfl rfl (c_Model_isWord9_fq (d := (d + 1)) (x1 := (4 + p20_1)) (by omega) (by omega) n_Wd9_20_0 (fun w68 w69 xp70 => ?_) (fun w71 xp72 => ?_) (fun w73 xp74 xp75 xp76 xp77 => ?_))
        ·
          show wp l rho (d + 2) 186 32 [(2, 151), (0, x1), (0, p20_0), (0, p20_1)] [(0, 0)] h20_0 Q
          have tE78 : sm h20_0 = sm h := sm_eq (fun j => my_fr.at gh_20_0 is_153 rfl) (fun j => my_fr.at gh_20_0 is_154 rfl) (fun j => my_fr.at gh_20_0 is_155 rfl)
          rw [tE78] at xp70
          have wx := xp70
          refine w_ifeq (t := 39) gz_186_32 rfl (fun u79 => ?_) (fun u79 => by exfalso; omega)
          refine w_iload_n gz_186_39 rfl ?_
          refine w_istore_n (ls' := [(2, 151), (0, x1), (0, p20_0), (0, p20_1)]) gz_186_40 gm_186 rfl rfl rfl ?_
          refine w_iinc (ls' := [(2, 151), (0, x1), (0, p20_0), (0, (p20_1 + 1))]) gz_186_41 rfl gm_186 rfl rfl rfl ⟨by omega, by omega⟩ ?_
          refine w_goto (t := 20) gz_186_44 rfl ?_
          have psJ : h20_0 151 7 = h20_0 151 7 := (rfl : h20_0 151 7 = h20_0 151 7)
          have npsJ : sm h20_0 = sm h := sm_eq (fun j => my_fr.at gh_20_0 is_153 rfl) (fun j => my_fr.at gh_20_0 is_154 rfl) (fun j => my_fr.at gh_20_0 is_155 rfl)
          have ce80 : h20_0 151 8 = p20_2 := c151_8_20_0
          have a153 : ∀ j : Int, h20_0 153 j = h20_0 153 j := fun _ => rfl
          have a169 : ∀ j : Int, h20_0 169 j = h20_0 169 j := fun _ => rfl
          exact ih_20_0 (p20_0) ((p20_1 + 1)) (p20_2) h20_0 (gh_20_0) (by omega) (by omega) (by omega) (by omega) (by omega) (by omega) (by omega) (c151_27_20_0.trans (by omega)) (c151_8_20_0.trans (by omega)) n_Tok_20_0 n_Mq_20_0 n_Wd9_20_0 n_P6_20_0 n_Ko_20_0 (by first | omega | (intro q; rw [a153]; subst_vars; omega) | (subst_vars; omega) | (intro _; assumption) | omega) (by omega) (by first | (intro q; exfalso; omega) | (intro q; rw [a169, k169]; omega) | (intro q; rw [a169]; exact k9_20_0 (by omega)) | omega) (by first | exact ca_20_0 | exact cuA_0 (by omega) (by omega) (by omega) (by omega) | exact cuA_f (by omega) (by omega) | omega) (by first | exact cuB_0 (by omega) (by omega) | exact cuB_y (j := p20_1) (by omega) (by omega) (by omega) (by omega) wx | exact cuB_n cb_20_0 (by omega) (by omega) (by omega) wx | omega) (by omega)
        ·
          show wp l rho (d + 2) 186 32 [(2, 151), (0, x1), (0, p20_0), (0, p20_1)] [(0, 0)] h20_0 Q
          have tE81 : sm h20_0 = sm h := sm_eq (fun j => my_fr.at gh_20_0 is_153 rfl) (fun j => my_fr.at gh_20_0 is_154 rfl) (fun j => my_fr.at gh_20_0 is_155 rfl)
          rw [tE81] at xp72
          have wx := xp72
          refine w_ifeq (t := 39) gz_186_32 rfl (fun u82 => ?_) (fun u82 => by exfalso; omega)
          refine w_iload_n gz_186_39 rfl ?_
          refine w_istore_n (ls' := [(2, 151), (0, x1), (0, p20_0), (0, p20_1)]) gz_186_40 gm_186 rfl rfl rfl ?_
          refine w_iinc (ls' := [(2, 151), (0, x1), (0, p20_0), (0, (p20_1 + 1))]) gz_186_41 rfl gm_186 rfl rfl rfl ⟨by omega, by omega⟩ ?_
          refine w_goto (t := 20) gz_186_44 rfl ?_
          have psJ : h20_0 151 7 = h20_0 151 7 := (rfl : h20_0 151 7 = h20_0 151 7)
          have npsJ : sm h20_0 = sm h := sm_eq (fun j => my_fr.at gh_20_0 is_153 rfl) (fun j => my_fr.at gh_20_0 is_154 rfl) (fun j => my_fr.at gh_20_0 is_155 rfl)
          have ce83 : h20_0 151 8 = p20_2 := c151_8_20_0
          have a153 : ∀ j : Int, h20_0 153 j = h20_0 153 j := fun _ => rfl
          have a169 : ∀ j : Int, h20_0 169 j = h20_0 169 j := fun _ => rfl
          exact ih_20_0 (p20_0) ((p20_1 + 1)) (p20_2) h20_0 (gh_20_0) (by omega) (by omega) (by omega) (by omega) (by omega) (by omega) (by omega) (c151_27_20_0.trans (by omega)) (c151_8_20_0.trans (by omega)) n_Tok_20_0 n_Mq_20_0 n_Wd9_20_0 n_P6_20_0 n_Ko_20_0 (by first | omega | (intro q; rw [a153]; subst_vars; omega) | (subst_vars; omega) | (intro _; assumption) | omega) (by omega) (by first | (intro q; exfalso; omega) | (intro q; rw [a169, k169]; omega) | (intro q; rw [a169]; exact k9_20_0 (by omega)) | omega) (by first | exact ca_20_0 | exact cuA_0 (by omega) (by omega) (by omega) (by omega) | exact cuA_f (by omega) (by omega) | omega) (by first | exact cuB_0 (by omega) (by omega) | exact cuB_y (j := p20_1) (by omega) (by omega) (by omega) (by omega) wx | exact cuB_n cb_20_0 (by omega) (by omega) (by omega) wx | omega) (by omega)
        ·
          show wp l rho (d + 2) 186 32 [(2, 151), (0, x1), (0, p20_0), (0, p20_1)] [(0, 1)] h20_0 Q
          have tE84 : sm h20_0 = sm h := sm_eq (fun j => my_fr.at gh_20_0 is_153 rfl) (fun j => my_fr.at gh_20_0 is_154 rfl) (fun j => my_fr.at gh_20_0 is_155 rfl)
          rw [tE84] at xp77
          have wx := xp77
          refine w_ifeq (t := 39) gz_186_32 rfl (fun u85 => by exfalso; omega) (fun u85 => ?_)
          refine w_iload_n gz_186_35 rfl ?_
          refine w_goto (t := 40) gz_186_36 rfl ?_
          refine w_istore_n (ls' := [(2, 151), (0, x1), (0, p20_1), (0, p20_1)]) gz_186_40 gm_186 rfl rfl rfl ?_
          refine w_iinc (ls' := [(2, 151), (0, x1), (0, p20_1), (0, (p20_1 + 1))]) gz_186_41 rfl gm_186 rfl rfl rfl ⟨by omega, by omega⟩ ?_
          refine w_goto (t := 20) gz_186_44 rfl ?_
          have psJ : h20_0 151 7 = h20_0 151 7 := (rfl : h20_0 151 7 = h20_0 151 7)
          have npsJ : sm h20_0 = sm h := sm_eq (fun j => my_fr.at gh_20_0 is_153 rfl) (fun j => my_fr.at gh_20_0 is_154 rfl) (fun j => my_fr.at gh_20_0 is_155 rfl)
          have ce86 : h20_0 151 8 = p20_2 := c151_8_20_0
          have a153 : ∀ j : Int, h20_0 153 j = h20_0 153 j := fun _ => rfl
          have a169 : ∀ j : Int, h20_0 169 j = h20_0 169 j := fun _ => rfl
          exact ih_20_0 (p20_1) ((p20_1 + 1)) (p20_2) h20_0 (gh_20_0) (by omega) (by omega) (by omega) (by omega) (by omega) (by omega) (by omega) (c151_27_20_0.trans (by omega)) (c151_8_20_0.trans (by omega)) n_Tok_20_0 n_Mq_20_0 n_Wd9_20_0 n_P6_20_0 n_Ko_20_0 (by first | omega | (intro q; rw [a153]; subst_vars; omega) | (subst_vars; omega) | (intro _; assumption) | omega) (by omega) (by first | (intro q; exfalso; omega) | (intro q; rw [a169, k169]; omega) | (intro q; rw [a169]; exact k9_20_0 (by omega)) | omega) (by first | exact ca_20_0 | exact cuA_0 (by omega) (by omega) (by omega) (by omega) | exact cuA_f (by omega) (by omega) | omega) (by first | exact cuB_0 (by omega) (by omega) | exact cuB_y (j := p20_1) (by omega) (by omega) (by omega) (by omega) wx | exact cuB_n cb_20_0 (by omega) (by omega) (by omega) wx | omega) (by omega)
  refine w_aload_n gz_186_0 rfl ?_
  refine w_getX (v := 169) gz_186_1 is_151 rd_10 rfl (by decide) rfl ?_
  refine w_iload_n gz_186_4 rfl ?_
  refine w_aload_n gz_186_5 rfl ?_
  refine w_aload_n gz_186_6 rfl ?_
  refine v_getI (j := 27) gz_186_7 rfl is_151 rd_10 rfl (fun v88 ev88 pv88 qv88 => ?_)
  have zv88 := ev88.trans ek151_27.symm
  refine w_iconst gz_186_10 (by decide) ?_
  refine w_isub gz_186_11 ⟨by omega, by omega⟩ ?_
  refine w_inv (k := 0) (as := [(0, (v88 - 1))]) (r := [(0, x1), (2, 169)]) (x := 151) (ls0 := [(2, 151), (0, (v88 - 1))]) gz_186_12 gm_187 rfl is_151 rd_10 rfl rfl rfl rfl rfl (c_Model_takeNumber9_f0 (d := d) (x1 := (v88 - 1)) (by omega) (by omega) (cf.trans (by omega)) n_Tok (fun h89 frh89 w90 w91 xp92 xp93 Tok_h89t94 => ?_) (fun h95 v96 frh95 w97 w98 w99 w100 w101 xp102 xp103 xp104 xp105 xp106 xp107 xp108 xp109 Tok_h95t110 => ?_))
  ·
    have gh89 : my_fr [(10, 7), (10, 8), (67, -1), (68, -1), (69, -1)] h h89 := my_fr.tr my_fr.rf (frh89.mo rfl)
    have Mq_h89 : Mq h89 wv := Mq_ag (my_ag.fr frh89 rfl) n_Mq
    have Wd9_h89 : Wd9 h89 := Wd9_ag (my_ag.fr frh89 rfl) n_Wd9
    have P6_h89 : h89 167 6 = h 167 6 := P6_ag (my_ag.fr frh89 rfl) (rfl)
    have Ko_h89 : Ko h h89 := Ko_ag (my_ag.fr frh89 rfl) (Ko_rf)
    show wp l rho (d + 2) 186 15 [(2, 151), (0, x1), (9, 0), (9, 0)] [(0, 0), (0, x1), (2, 169)] h89 Q
    have hi111 : 0 ≤ 0 := by omega
    have hi112 : 0 ≤ 7 := by omega
    refine w_iast gz_186_15 is_169 rd_68 (by omega) (by omega) (by omega) (by omega) (fun h113 fh113 => ?_)
    have gh113 : my_fr [(10, 7), (10, 8), (67, -1), (68, -1), (69, -1)] h h113 := my_fr.up gh89 is_169 fh113 rfl
    have Mq_h113 : Mq h113 wv := Mq_u (a := 169) hwv (by decide) (by omega) fh113 Mq_h89
    have Wd9_h113 : Wd9 h113 := Wd9_ag (my_ag.up fh113 is_169 rfl) Wd9_h89
    have P6_h113 : h113 167 6 = h 167 6 := P6_ag (my_ag.up fh113 is_169 rfl) P6_h89
    have Ko_h113 : Ko h h113 := Ko_u (a := 169) hwv (by decide) (by omega) fh113 Ko_h89
    have Tok_h113 : Tok h113 := Tok_ag (my_ag.up fh113 is_169 rfl) Tok_h89t94
    have k169 := my_up_self fh113
    refine w_iconst gz_186_16 (by decide) ?_
    refine w_istore_n (ls' := [(2, 151), (0, x1), (0, (-1)), (9, 0)]) gz_186_17 gm_186 rfl rfl rfl ?_
    refine w_iconst gz_186_18 (by decide) ?_
    refine w_istore_n (ls' := [(2, 151), (0, x1), (0, (-1)), (0, 0)]) gz_186_19 gm_186 rfl rfl rfl ?_
    have psJ : h113 151 7 = (h 151 7) := ((my_up_role fh113 is_151 is_169 rfl).trans xp92)
    have npsJ : sm h113 = sm h := sm_eq (fun j => my_fr.at gh113 is_153 rfl) (fun j => my_fr.at gh113 is_154 rfl) (fun j => my_fr.at gh113 is_155 rfl)
    have ce114 : h113 151 7 = h89 151 7 := ((my_up_role fh113 is_151 is_169 rfl).trans (rfl : h89 151 7 = h89 151 7))
    have ce115 : h113 151 8 = (h89 151 8) := ((my_up_role fh113 is_151 is_169 rfl).trans (rfl : h89 151 8 = h89 151 8))
    have a153 : ∀ j : Int, h113 153 j = h 153 j := fun j => ((my_up_role fh113 is_153 is_169 rfl).trans ((my_fr.at frh89 is_153 rfl).trans (rfl : h 153 j = h 153 j)))
    have a169 : ∀ j : Int, h113 169 j = h113 169 j := fun j => rfl
    exact J20_0 4 ((-1)) (0) ((h89 151 8)) h113 (gh113) (by omega) (by omega) (by omega) (by omega) (by omega) (by omega) (by omega) (((my_up_role fh113 is_151 is_169 rfl).trans ((my_fr.at frh89 is_151 rfl).trans ev88.symm)).trans (by omega)) (((my_up_role fh113 is_151 is_169 rfl).trans (rfl : h89 151 8 = h89 151 8)).trans (by omega)) Tok_h113 Mq_h113 Wd9_h113 P6_h113 Ko_h113 (by first | omega | (intro q; rw [a153]; subst_vars; omega) | (subst_vars; omega) | (intro _; assumption) | omega) (by omega) (by first | (intro q; exfalso; omega) | (intro q; rw [a169, k169]; omega) | (intro q; rw [a169]; exact k9_20_0 (by omega)) | omega) (by first | exact ca_20_0 | exact cuA_0 (by omega) (by omega) (by omega) (by omega) | exact cuA_f (by omega) (by omega) | omega) (by first | exact cuB_0 (by omega) (by omega) | exact cuB_y (j := p20_1) (by omega) (by omega) (by omega) (by omega) wx | exact cuB_n cb_20_0 (by omega) (by omega) (by omega) wx | omega) (by omega)
  ·
    have gh95 : my_fr [(10, 7), (10, 8), (67, -1), (68, -1), (69, -1)] h h95 := my_fr.tr my_fr.rf (frh95.mo rfl)
    have Mq_h95 : Mq h95 wv := Mq_ag (my_ag.fr frh95 rfl) n_Mq
    have Wd9_h95 : Wd9 h95 := Wd9_ag (my_ag.fr frh95 rfl) n_Wd9
    have P6_h95 : h95 167 6 = h 167 6 := P6_ag (my_ag.fr frh95 rfl) (rfl)
    have Ko_h95 : Ko h h95 := Ko_ag (my_ag.fr frh95 rfl) (Ko_rf)
    show wp l rho (d + 2) 186 15 [(2, 151), (0, x1), (9, 0), (9, 0)] [(0, v96), (0, x1), (2, 169)] h95 Q
    have hi116 : 0 ≤ v96 := by omega
    have hi117 : v96 ≤ 7 := by omega
    refine w_iast gz_186_15 is_169 rd_68 (by omega) (by omega) (by omega) (by omega) (fun h118 fh118 => ?_)
    have gh118 : my_fr [(10, 7), (10, 8), (67, -1), (68, -1), (69, -1)] h h118 := my_fr.up gh95 is_169 fh118 rfl
    have Mq_h118 : Mq h118 wv := Mq_u (a := 169) hwv (by decide) (by omega) fh118 Mq_h95
    have Wd9_h118 : Wd9 h118 := Wd9_ag (my_ag.up fh118 is_169 rfl) Wd9_h95
    have P6_h118 : h118 167 6 = h 167 6 := P6_ag (my_ag.up fh118 is_169 rfl) P6_h95
    have Ko_h118 : Ko h h118 := Ko_u (a := 169) hwv (by decide) (by omega) fh118 Ko_h95
    have Tok_h118 : Tok h118 := Tok_ag (my_ag.up fh118 is_169 rfl) Tok_h95t110
    have k169 := my_up_self fh118
    refine w_iconst gz_186_16 (by decide) ?_
    refine w_istore_n (ls' := [(2, 151), (0, x1), (0, (-1)), (9, 0)]) gz_186_17 gm_186 rfl rfl rfl ?_
    refine w_iconst gz_186_18 (by decide) ?_
    refine w_istore_n (ls' := [(2, 151), (0, x1), (0, (-1)), (0, 0)]) gz_186_19 gm_186 rfl rfl rfl ?_
    have psJ : h118 151 7 = (sN (sm h) (h 151 7)) := ((my_up_role fh118 is_151 is_169 rfl).trans xp107)
    have npsJ : sm h118 = sm h := sm_eq (fun j => my_fr.at gh118 is_153 rfl) (fun j => my_fr.at gh118 is_154 rfl) (fun j => my_fr.at gh118 is_155 rfl)
    have ce119 : h118 151 7 = (h95 151 7) := ((my_up_role fh118 is_151 is_169 rfl).trans (rfl : h95 151 7 = h95 151 7))
    have ce120 : h118 151 8 = 0 := ((my_up_role fh118 is_151 is_169 rfl).trans w101)
    have a153 : ∀ j : Int, h118 153 j = h 153 j := fun j => ((my_up_role fh118 is_153 is_169 rfl).trans ((my_fr.at frh95 is_153 rfl).trans (rfl : h 153 j = h 153 j)))
    have a169 : ∀ j : Int, h118 169 j = h118 169 j := fun j => rfl
    exact J20_0 4 ((-1)) (0) (0) h118 (gh118) (by omega) (by omega) (by omega) (by omega) (by omega) (by omega) (by omega) (((my_up_role fh118 is_151 is_169 rfl).trans ((my_fr.at frh95 is_151 rfl).trans ev88.symm)).trans (by omega)) (((my_up_role fh118 is_151 is_169 rfl).trans w101).trans (by omega)) Tok_h118 Mq_h118 Wd9_h118 P6_h118 Ko_h118 (by first | omega | (intro q; rw [a153]; subst_vars; omega) | (subst_vars; omega) | (intro _; assumption) | omega) (by omega) (by first | (intro q; exfalso; omega) | (intro q; rw [a169, k169]; omega) | (intro q; rw [a169]; exact k9_20_0 (by omega)) | omega) (by first | exact ca_20_0 | exact cuA_0 (by omega) (by omega) (by omega) (by omega) | exact cuA_f (by omega) (by omega) | omega) (by first | exact cuB_0 (by omega) (by omega) | exact cuB_y (j := p20_1) (by omega) (by omega) (by omega) (by omega) wx | exact cuB_n cb_20_0 (by omega) (by omega) (by omega) wx | omega) (by omega)
end MYNModel_takeWord9_f1
