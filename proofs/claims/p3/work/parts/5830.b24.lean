/-! contracts, printed by wip/gen/gy.py -/
section MYNModel_isWord9_f1
theorem c_Model_isWord9_f1 {l : Launch} {rho : Nat → Int32} {d : Nat} {h : my_H} {Q : my_H → my_V → Prop} {x1 : Int} (a1 : 0 ≤ x1) (b1 : x1 ≤ 11) (xf : Int) (cf : h 151 8 = xf) (cf1 : 1 ≤ xf) (cf2 : xf ≤ 16005) (n_Wd9 : Wd9 h) (k0 : 1 ≤ h 151 8 → h 151 8 ≤ 16005 → (h 151 8 = 0 → sW (sm h) (h 151 7) ≠ wm x1) → Q h (0, 0)) : wp l rho d 177 0 [(2, 151), (0, x1)] [] h Q := by
  have w9 := n_Wd9 x1 a1 b1
  refine w_aload_n gz_177_0 rfl ?_
  refine v_getI (j := 8) gz_177_1 rfl is_151 rd_10 rfl (fun v1 ev1 pv1 qv1 => ?_)
  have zv1 := ev1.trans cf
  refine w_ifne (t := 43) gz_177_4 rfl (fun u2 => ?_) (fun u2 => by exfalso; omega)
  refine w_iconst gz_177_43 (by decide) ?_
  have psR : h 151 7 = h 151 7 := (rfl : h 151 7 = h 151 7)
  have npsR : sm h = sm h := rfl
  have c3 := ev1.symm
  exact w_bret gz_177_44 gm_177 (by omega) (by omega) (k0 (by omega) (by omega) (by first | omega | (subst_vars; omega) | exact sW_1 (by omega) (by omega) | (intro z; have q := sW_0 (wm_pos a1 b1) z; omega) | (intro f z; have q := sW_0 (wm_pos a1 b1) z; omega) | omega))
theorem c_Model_isWord9_f0 {l : Launch} {rho : Nat → Int32} {d : Nat} {h : my_H} {Q : my_H → my_V → Prop} {x1 : Int} (a1 : 0 ≤ x1) (b1 : x1 ≤ 11) (cf : h 151 8 = 0) (n_Wd9 : Wd9 h) (k0 : h 151 8 = 0 → sW (sm h) (h 151 7) ≠ wm x1 → Q h (0, 0)) (k1 : h 151 8 = 0 → h 153 (h 151 7) = 1 → h 155 (h 151 7) = h 156 x1 → h 151 8 = 0 → sW (sm h) (h 151 7) = wm x1 → Q h (0, 1)) : wp l rho d 177 0 [(2, 151), (0, x1)] [] h Q := by
  have w9 := n_Wd9 x1 a1 b1
  refine w_aload_n gz_177_0 rfl ?_
  refine v_getI (j := 8) gz_177_1 rfl is_151 rd_10 rfl (fun v1 ev1 pv1 qv1 => ?_)
  have zv1 := ev1.trans cf
  refine w_ifne (t := 43) gz_177_4 rfl (fun u2 => by exfalso; omega) (fun u2 => ?_)
  refine w_aload_n gz_177_7 rfl ?_
  refine w_getX (v := 153) gz_177_8 is_151 rd_10 rfl (by decide) rfl ?_
  refine w_aload_n gz_177_11 rfl ?_
  refine v_getI (j := 7) gz_177_12 rfl is_151 rd_10 rfl (fun v4 ev4 pv4 qv4 => ?_)
  refine w_iald gz_177_15 is_153 rd_52 (by omega) (by omega) (fun v5 ev5 pv5 qv5 => ?_)
  have nz6 : (v5 ≠ 3 → sK (sm h) (h 151 7) = v5) ∧ (v5 = 3 → sV (sm h) (h 151 7) = 59 → sK (sm h) (h 151 7) = 3) ∧ (v5 = 3 → sV (sm h) (h 151 7) ≠ 59 → sK (sm h) (h 151 7) = 4) := by
    have q := ev5
    rw [show (v4 : Int) = h 151 7 from by omega] at q
    exact sK_ld q
  refine w_iconst gz_177_16 (by decide) ?_
  refine w_icne (t := 43) gz_177_17 rfl (fun u7 => ?_) (fun u7 => ?_)
  ·
    refine w_iconst gz_177_43 (by decide) ?_
    have psR : h 151 7 = h 151 7 := (rfl : h 151 7 = h 151 7)
    have npsR : sm h = sm h := rfl
    have c8 := ev1.symm
    exact w_bret gz_177_44 gm_177 (by omega) (by omega) (k0 (by omega) (by first | omega | (subst_vars; omega) | exact sW_1 (by omega) (by omega) | (intro z; have q := sW_0 (wm_pos a1 b1) z; omega) | (intro f z; have q := sW_0 (wm_pos a1 b1) z; omega) | omega))
  ·
    refine w_aload_n gz_177_20 rfl ?_
    refine w_getX (v := 155) gz_177_21 is_151 rd_10 rfl (by decide) rfl ?_
    refine w_aload_n gz_177_24 rfl ?_
    refine v_getI (j := 7) gz_177_25 rfl is_151 rd_10 rfl (fun v10 ev10 pv10 qv10 => ?_)
    have zv10 := ev10.trans ev4.symm
    refine w_lald gz_177_28 is_155 rd_54 (by omega) (by omega) (fun v11 ev11 pv11 => ?_)
    have nz12 : v11 = sV (sm h) (h 151 7) := by
      have q := ev11
      rw [show (v10 : Int) = h 151 7 from by omega] at q
      exact q
    refine w_aload_n gz_177_29 rfl ?_
    refine w_getX (v := 156) gz_177_30 is_151 rd_10 rfl (by decide) rfl ?_
    refine w_iload_n gz_177_33 rfl ?_
    refine w_lald gz_177_34 is_156 rd_55 (by omega) (by omega) (fun v14 ev14 pv14 => ?_)
    refine w_lcmpE gz_177_35 (fun v15 pv15 qv15 xv15 => ?_)
    refine w_ifne (t := 43) gz_177_36 rfl (fun u16 => ?_) (fun u16 => ?_)
    ·
      refine w_iconst gz_177_43 (by decide) ?_
      have psR : h 151 7 = h 151 7 := (rfl : h 151 7 = h 151 7)
      have npsR : sm h = sm h := rfl
      have c17 := ev1.symm
      exact w_bret gz_177_44 gm_177 (by omega) (by omega) (k0 (by omega) (by first | omega | (subst_vars; omega) | exact sW_1 (by omega) (by omega) | (intro z; have q := sW_0 (wm_pos a1 b1) z; omega) | (intro f z; have q := sW_0 (wm_pos a1 b1) z; omega) | omega))
    ·
      refine w_iconst gz_177_39 (by decide) ?_
      refine w_goto (t := 44) gz_177_40 rfl ?_
      have psR : h 151 7 = h 151 7 := (rfl : h 151 7 = h 151 7)
      have npsR : sm h = sm h := rfl
      have c18 := ev1.symm
      exact w_bret gz_177_44 gm_177 (by omega) (by omega) (k1 (by omega) (by first | omega | (subst_vars; omega) | exact sW_1 (by omega) (by omega) | (intro z; have q := sW_0 (wm_pos a1 b1) z; omega) | (intro f z; have q := sW_0 (wm_pos a1 b1) z; omega) | omega) (by first | omega | (subst_vars; omega) | exact sW_1 (by omega) (by omega) | (intro z; have q := sW_0 (wm_pos a1 b1) z; omega) | (intro f z; have q := sW_0 (wm_pos a1 b1) z; omega) | omega) (by first | omega | (subst_vars; omega) | exact sW_1 (by omega) (by omega) | (intro z; have q := sW_0 (wm_pos a1 b1) z; omega) | (intro f z; have q := sW_0 (wm_pos a1 b1) z; omega) | omega) (by first | omega | (subst_vars; omega) | exact sW_1 (by omega) (by omega) | (intro z; have q := sW_0 (wm_pos a1 b1) z; omega) | (intro f z; have q := sW_0 (wm_pos a1 b1) z; omega) | omega))
theorem c_Model_isWord9_fq {l : Launch} {rho : Nat → Int32} {d : Nat} {h : my_H} {Q : my_H → my_V → Prop} {x1 : Int} (a1 : 0 ≤ x1) (b1 : x1 ≤ 11) (n_Wd9 : Wd9 h) (k0 : 1 ≤ h 151 8 → h 151 8 ≤ 16005 → (h 151 8 = 0 → sW (sm h) (h 151 7) ≠ wm x1) → Q h (0, 0)) (k1 : h 151 8 = 0 → (h 151 8 = 0 → sW (sm h) (h 151 7) ≠ wm x1) → Q h (0, 0)) (k2 : h 151 8 = 0 → h 153 (h 151 7) = 1 → h 155 (h 151 7) = h 156 x1 → h 151 8 = 0 → sW (sm h) (h 151 7) = wm x1 → Q h (0, 1)) : wp l rho d 177 0 [(2, 151), (0, x1)] [] h Q := by
  have w9 := n_Wd9 x1 a1 b1
  refine w_aload_n gz_177_0 rfl ?_
  refine v_getI (j := 8) gz_177_1 rfl is_151 rd_10 rfl (fun v1 ev1 pv1 qv1 => ?_)
  refine w_ifne (t := 43) gz_177_4 rfl (fun u2 => ?_) (fun u2 => ?_)
  ·
    refine w_iconst gz_177_43 (by decide) ?_
    have psR : h 151 7 = h 151 7 := (rfl : h 151 7 = h 151 7)
    have npsR : sm h = sm h := rfl
    have c3 := ev1.symm
    exact w_bret gz_177_44 gm_177 (by omega) (by omega) (k0 (by omega) (by omega) (by first | omega | (subst_vars; omega) | exact sW_1 (by omega) (by omega) | (intro z; have q := sW_0 (wm_pos a1 b1) z; omega) | (intro f z; have q := sW_0 (wm_pos a1 b1) z; omega) | omega))
  ·
    refine w_aload_n gz_177_7 rfl ?_
    refine w_getX (v := 153) gz_177_8 is_151 rd_10 rfl (by decide) rfl ?_
    refine w_aload_n gz_177_11 rfl ?_
    refine v_getI (j := 7) gz_177_12 rfl is_151 rd_10 rfl (fun v5 ev5 pv5 qv5 => ?_)
    refine w_iald gz_177_15 is_153 rd_52 (by omega) (by omega) (fun v6 ev6 pv6 qv6 => ?_)
    have nz7 : (v6 ≠ 3 → sK (sm h) (h 151 7) = v6) ∧ (v6 = 3 → sV (sm h) (h 151 7) = 59 → sK (sm h) (h 151 7) = 3) ∧ (v6 = 3 → sV (sm h) (h 151 7) ≠ 59 → sK (sm h) (h 151 7) = 4) := by
      have q := ev6
      rw [show (v5 : Int) = h 151 7 from by omega] at q
      exact sK_ld q
    refine w_iconst gz_177_16 (by decide) ?_
    refine w_icne (t := 43) gz_177_17 rfl (fun u8 => ?_) (fun u8 => ?_)
    ·
      refine w_iconst gz_177_43 (by decide) ?_
      have psR : h 151 7 = h 151 7 := (rfl : h 151 7 = h 151 7)
      have npsR : sm h = sm h := rfl
      have c9 := ev1.symm
      exact w_bret gz_177_44 gm_177 (by omega) (by omega) (k1 (by omega) (by first | omega | (subst_vars; omega) | exact sW_1 (by omega) (by omega) | (intro z; have q := sW_0 (wm_pos a1 b1) z; omega) | (intro f z; have q := sW_0 (wm_pos a1 b1) z; omega) | omega))
    ·
      refine w_aload_n gz_177_20 rfl ?_
      refine w_getX (v := 155) gz_177_21 is_151 rd_10 rfl (by decide) rfl ?_
      refine w_aload_n gz_177_24 rfl ?_
      refine v_getI (j := 7) gz_177_25 rfl is_151 rd_10 rfl (fun v11 ev11 pv11 qv11 => ?_)
      have zv11 := ev11.trans ev5.symm
      refine w_lald gz_177_28 is_155 rd_54 (by omega) (by omega) (fun v12 ev12 pv12 => ?_)
      have nz13 : v12 = sV (sm h) (h 151 7) := by
        have q := ev12
        rw [show (v11 : Int) = h 151 7 from by omega] at q
        exact q
      refine w_aload_n gz_177_29 rfl ?_
      refine w_getX (v := 156) gz_177_30 is_151 rd_10 rfl (by decide) rfl ?_
      refine w_iload_n gz_177_33 rfl ?_
      refine w_lald gz_177_34 is_156 rd_55 (by omega) (by omega) (fun v15 ev15 pv15 => ?_)
      refine w_lcmpE gz_177_35 (fun v16 pv16 qv16 xv16 => ?_)
      refine w_ifne (t := 43) gz_177_36 rfl (fun u17 => ?_) (fun u17 => ?_)
      ·
        refine w_iconst gz_177_43 (by decide) ?_
        have psR : h 151 7 = h 151 7 := (rfl : h 151 7 = h 151 7)
        have npsR : sm h = sm h := rfl
        have c18 := ev1.symm
        exact w_bret gz_177_44 gm_177 (by omega) (by omega) (k1 (by omega) (by first | omega | (subst_vars; omega) | exact sW_1 (by omega) (by omega) | (intro z; have q := sW_0 (wm_pos a1 b1) z; omega) | (intro f z; have q := sW_0 (wm_pos a1 b1) z; omega) | omega))
      ·
        refine w_iconst gz_177_39 (by decide) ?_
        refine w_goto (t := 44) gz_177_40 rfl ?_
        have psR : h 151 7 = h 151 7 := (rfl : h 151 7 = h 151 7)
        have npsR : sm h = sm h := rfl
        have c19 := ev1.symm
        exact w_bret gz_177_44 gm_177 (by omega) (by omega) (k2 (by omega) (by first | omega | (subst_vars; omega) | exact sW_1 (by omega) (by omega) | (intro z; have q := sW_0 (wm_pos a1 b1) z; omega) | (intro f z; have q := sW_0 (wm_pos a1 b1) z; omega) | omega) (by first | omega | (subst_vars; omega) | exact sW_1 (by omega) (by omega) | (intro z; have q := sW_0 (wm_pos a1 b1) z; omega) | (intro f z; have q := sW_0 (wm_pos a1 b1) z; omega) | omega) (by first | omega | (subst_vars; omega) | exact sW_1 (by omega) (by omega) | (intro z; have q := sW_0 (wm_pos a1 b1) z; omega) | (intro f z; have q := sW_0 (wm_pos a1 b1) z; omega) | omega) (by first | omega | (subst_vars; omega) | exact sW_1 (by omega) (by omega) | (intro z; have q := sW_0 (wm_pos a1 b1) z; omega) | (intro f z; have q := sW_0 (wm_pos a1 b1) z; omega) | omega))
theorem c_Model_takeSign9_f1 {l : Launch} {rho : Nat → Int32} {d : Nat} {h : my_H} {Q : my_H → my_V → Prop} (xf : Int) (cf : h 151 8 = xf) (cf1 : 1 ≤ xf) (cf2 : xf ≤ 16005) (n_Tok : Tok h) (k0 : 1 ≤ h 151 8 → h 151 8 ≤ 16005 → h 151 7 ≤ h 151 7 → h 151 7 = h 151 7 → Tok h → Q h (9, 0)) : wp l rho (d + 1) 183 0 [(2, 151), (0, 59)] [] h Q := by
  refine v_know (x := 151) (j := 7) (b := 7) rfl is_151 rd_10 rfl (fun k151_7 ek151_7 pk151_7 qk151_7 => ?_)
  refine w_aload_n gz_183_0 rfl ?_
  refine w_iload_n gz_183_1 rfl ?_
  refine w_inv (k := 0) (as := [(0, 59)]) (r := []) (x := 151) (ls0 := [(2, 151), (0, 59)]) gz_183_2 gm_184 rfl is_151 rd_10 rfl rfl rfl rfl rfl ?_
  refine w_aload_n gz_184_0 rfl ?_
  refine v_getI (j := 8) gz_184_1 rfl is_151 rd_10 rfl (fun v1 ev1 pv1 qv1 => ?_)
  have zv1 := ev1.trans cf
  refine w_ifne (t := 39) gz_184_4 rfl (fun u2 => ?_) (fun u2 => by exfalso; omega)
  refine w_iconst gz_184_39 (by decide) ?_
  refine w_bret gz_184_40 gm_184 (by omega) (by omega) ?_
  show wp l rho (d + 1) 183 5 [(2, 151), (0, 59)] [(0, 0)] h Q
  refine w_ifeq (t := 21) gz_183_5 rfl (fun u3 => ?_) (fun u3 => by exfalso; omega)
  refine w_aload_n gz_183_21 rfl ?_
  refine w_iconst gz_183_22 (by decide) ?_
  refine w_inv (k := 0) (as := [(0, 1)]) (r := []) (x := 151) (ls0 := [(2, 151), (0, 1)]) gz_183_23 gm_178 rfl is_151 rd_10 rfl rfl rfl rfl rfl ?_
  refine w_aload_n gz_178_0 rfl ?_
  refine v_getI (j := 8) gz_178_1 rfl is_151 rd_10 rfl (fun v4 ev4 pv4 qv4 => ?_)
  have zv4 := ev4.trans ev1.symm
  refine w_ifne (t := 25) gz_178_4 rfl (fun u5 => ?_) (fun u5 => by exfalso; omega)
  refine w_vret gz_178_25 gm_178 ?_
  show wp l rho (d + 1) 183 26 [(2, 151), (0, 59)] [] h Q
  have psR : h 151 7 = h 151 7 := (rfl : h 151 7 = h 151 7)
  have npsR : sm h = sm h := rfl
  have ce6 : h 151 7 = k151_7 := ek151_7.symm
  have c7 := ev4.symm
  exact w_vret gz_183_26 gm_183 (k0 (by omega) (by omega) (by first | assumption | omega | (subst_vars; omega) | omega) (by first | assumption | omega | (subst_vars; omega) | omega) n_Tok)
theorem c_Model_takeSign9_f0 {l : Launch} {rho : Nat → Int32} {d : Nat} {h : my_H} {Q : my_H → my_V → Prop} (cf : h 151 8 = 0) (n_Tok : Tok h) (k0 : ∀ (h' : my_H), my_fr [(10, 7), (10, 8)] h h' → 1 ≤ h' 151 8 → h' 151 8 ≤ 16001 → h 151 7 ≤ h' 151 7 → sK (sm h) (h 151 7) ≠ 3 → h' 151 8 = 1 + 16 * sP (sm h) (h 151 7) → Tok h' → Q h' (9, 0)) (k1 : ∀ (h' : my_H), my_fr [(10, 7), (10, 8)] h h' → 1 ≤ h' 151 7 → h' 151 7 ≤ 1001 → h' 151 8 = 0 → h 151 7 ≤ h' 151 7 → h' 151 7 = sN (sm h) (h 151 7) → sK (sm h) (h 151 7) = 3 → Tok h' → Q h' (9, 0)) : wp l rho (d + 1) 183 0 [(2, 151), (0, 59)] [] h Q := by
  refine v_know (x := 151) (j := 7) (b := 7) rfl is_151 rd_10 rfl (fun k151_7 ek151_7 pk151_7 qk151_7 => ?_)
  refine w_aload_n gz_183_0 rfl ?_
  refine w_iload_n gz_183_1 rfl ?_
  refine w_inv (k := 0) (as := [(0, 59)]) (r := []) (x := 151) (ls0 := [(2, 151), (0, 59)]) gz_183_2 gm_184 rfl is_151 rd_10 rfl rfl rfl rfl rfl ?_
  refine w_aload_n gz_184_0 rfl ?_
  refine v_getI (j := 8) gz_184_1 rfl is_151 rd_10 rfl (fun v1 ev1 pv1 qv1 => ?_)
  have zv1 := ev1.trans cf
  refine w_ifne (t := 39) gz_184_4 rfl (fun u2 => by exfalso; omega) (fun u2 => ?_)
  refine w_aload_n gz_184_7 rfl ?_
  refine w_getX (v := 153) gz_184_8 is_151 rd_10 rfl (by decide) rfl ?_
  refine w_aload_n gz_184_11 rfl ?_
  refine v_getI (j := 7) gz_184_12 rfl is_151 rd_10 rfl (fun v4 ev4 pv4 qv4 => ?_)
  have zv4 := ev4.trans ek151_7.symm
  refine w_iald gz_184_15 is_153 rd_52 (by omega) (by omega) (fun v5 ev5 pv5 qv5 => ?_)
  have nz6 : (v5 ≠ 3 → sK (sm h) (h 151 7) = v5) ∧ (v5 = 3 → sV (sm h) (h 151 7) = 59 → sK (sm h) (h 151 7) = 3) ∧ (v5 = 3 → sV (sm h) (h 151 7) ≠ 59 → sK (sm h) (h 151 7) = 4) := by
    have q := ev5
    rw [show (v4 : Int) = h 151 7 from by omega] at q
    exact sK_ld q
  refine w_iconst gz_184_16 (by decide) ?_
  refine w_icne (t := 39) gz_184_17 rfl (fun u7 => ?_) (fun u7 => ?_)
  ·
    refine w_iconst gz_184_39 (by decide) ?_
    refine w_bret gz_184_40 gm_184 (by omega) (by omega) ?_
    show wp l rho (d + 1) 183 5 [(2, 151), (0, 59)] [(0, 0)] h Q
    refine w_ifeq (t := 21) gz_183_5 rfl (fun u8 => ?_) (fun u8 => by exfalso; omega)
    refine w_aload_n gz_183_21 rfl ?_
    refine w_iconst gz_183_22 (by decide) ?_
    refine w_inv (k := 0) (as := [(0, 1)]) (r := []) (x := 151) (ls0 := [(2, 151), (0, 1)]) gz_183_23 gm_178 rfl is_151 rd_10 rfl rfl rfl rfl rfl ?_
    refine w_aload_n gz_178_0 rfl ?_
    refine v_getI (j := 8) gz_178_1 rfl is_151 rd_10 rfl (fun v9 ev9 pv9 qv9 => ?_)
    have zv9 := ev9.trans ev1.symm
    refine w_ifne (t := 25) gz_178_4 rfl (fun u10 => by exfalso; omega) (fun u10 => ?_)
    refine w_aload_n gz_178_7 rfl ?_
    refine w_iload_n gz_178_8 rfl ?_
    refine w_bipush gz_178_9 (by decide) ?_
    refine w_aload_n gz_178_11 rfl ?_
    refine w_getX (v := 154) gz_178_12 is_151 rd_10 rfl (by decide) rfl ?_
    refine w_aload_n gz_178_15 rfl ?_
    refine v_getI (j := 7) gz_178_16 rfl is_151 rd_10 rfl (fun v12 ev12 pv12 qv12 => ?_)
    have zv12 := ev12.trans ev4.symm
    refine w_iald gz_178_19 is_154 rd_53 (by omega) (by omega) (fun v13 ev13 pv13 qv13 => ?_)
    have nz14 : v13 = sP (sm h) (h 151 7) := by
      have q := ev13
      rw [show (v12 : Int) = h 151 7 from by omega] at q
      exact q
    refine w_imul gz_178_20 ⟨by omega, by omega⟩ ?_
    refine w_iadd gz_178_21 ⟨by omega, by omega⟩ ?_
    refine v_putI (j := 8) gz_178_22 rfl is_151 rd_10 rfl (by omega) (by omega) rfl (fun h15 fh15 => ?_)
    have gh15 : my_fr [(10, 7), (10, 8)] h h15 := my_fr.up my_fr.rf is_151 fh15 rfl
    have Tok_h15 : Tok h15 := Tok_ag (my_ag.up fh15 is_151 rfl) n_Tok
    refine w_vret gz_178_25 gm_178 ?_
    show wp l rho (d + 1) 183 26 [(2, 151), (0, 59)] [] h15 Q
    have psR : h15 151 7 = h 151 7 := ((my_up_fld fh15 (by decide)).trans (rfl : h 151 7 = h 151 7))
    have npsR : sm h15 = sm h := sm_eq (fun j => my_fr.at gh15 is_153 rfl) (fun j => my_fr.at gh15 is_154 rfl) (fun j => my_fr.at gh15 is_155 rfl)
    have ce16 : h15 151 7 = v12 := ((my_up_fld fh15 (by decide)).trans ev12.symm)
    have c17 := (my_up_self fh15)
    exact w_vret gz_183_26 gm_183 (k0 h15 (gh15) (by omega) (by omega) (by first | assumption | omega | (subst_vars; omega) | omega) (by first | assumption | omega | (subst_vars; omega) | omega) (by first | assumption | omega | (subst_vars; omega) | omega) Tok_h15)
  ·
    refine w_aload_n gz_184_20 rfl ?_
    refine w_getX (v := 155) gz_184_21 is_151 rd_10 rfl (by decide) rfl ?_
    refine w_aload_n gz_184_24 rfl ?_
    refine v_getI (j := 7) gz_184_25 rfl is_151 rd_10 rfl (fun v19 ev19 pv19 qv19 => ?_)
    have zv19 := ev19.trans ev4.symm
    refine w_lald gz_184_28 is_155 rd_54 (by omega) (by omega) (fun v20 ev20 pv20 => ?_)
    have nz21 : v20 = sV (sm h) (h 151 7) := by
      have q := ev20
      rw [show (v19 : Int) = h 151 7 from by omega] at q
      exact q
    refine w_iload_n gz_184_29 rfl ?_
    refine w_i2l gz_184_30 ?_
    refine w_lcmpE gz_184_31 (fun v22 pv22 qv22 xv22 => ?_)
    refine w_ifne (t := 39) gz_184_32 rfl (fun u23 => ?_) (fun u23 => ?_)
    ·
      refine w_iconst gz_184_39 (by decide) ?_
      refine w_bret gz_184_40 gm_184 (by omega) (by omega) ?_
      show wp l rho (d + 1) 183 5 [(2, 151), (0, 59)] [(0, 0)] h Q
      refine w_ifeq (t := 21) gz_183_5 rfl (fun u24 => ?_) (fun u24 => by exfalso; omega)
      refine w_aload_n gz_183_21 rfl ?_
      refine w_iconst gz_183_22 (by decide) ?_
      refine w_inv (k := 0) (as := [(0, 1)]) (r := []) (x := 151) (ls0 := [(2, 151), (0, 1)]) gz_183_23 gm_178 rfl is_151 rd_10 rfl rfl rfl rfl rfl ?_
      refine w_aload_n gz_178_0 rfl ?_
      refine v_getI (j := 8) gz_178_1 rfl is_151 rd_10 rfl (fun v25 ev25 pv25 qv25 => ?_)
      have zv25 := ev25.trans ev1.symm
      refine w_ifne (t := 25) gz_178_4 rfl (fun u26 => by exfalso; omega) (fun u26 => ?_)
      refine w_aload_n gz_178_7 rfl ?_
      refine w_iload_n gz_178_8 rfl ?_
      refine w_bipush gz_178_9 (by decide) ?_
      refine w_aload_n gz_178_11 rfl ?_
      refine w_getX (v := 154) gz_178_12 is_151 rd_10 rfl (by decide) rfl ?_
      refine w_aload_n gz_178_15 rfl ?_
      refine v_getI (j := 7) gz_178_16 rfl is_151 rd_10 rfl (fun v28 ev28 pv28 qv28 => ?_)
      have zv28 := ev28.trans ev19.symm
      refine w_iald gz_178_19 is_154 rd_53 (by omega) (by omega) (fun v29 ev29 pv29 qv29 => ?_)
      have nz30 : v29 = sP (sm h) (h 151 7) := by
        have q := ev29
        rw [show (v28 : Int) = h 151 7 from by omega] at q
        exact q
      refine w_imul gz_178_20 ⟨by omega, by omega⟩ ?_
      refine w_iadd gz_178_21 ⟨by omega, by omega⟩ ?_
      refine v_putI (j := 8) gz_178_22 rfl is_151 rd_10 rfl (by omega) (by omega) rfl (fun h31 fh31 => ?_)
      have gh31 : my_fr [(10, 7), (10, 8)] h h31 := my_fr.up my_fr.rf is_151 fh31 rfl
      have Tok_h31 : Tok h31 := Tok_ag (my_ag.up fh31 is_151 rfl) n_Tok
      refine w_vret gz_178_25 gm_178 ?_
      show wp l rho (d + 1) 183 26 [(2, 151), (0, 59)] [] h31 Q
      have psR : h31 151 7 = h 151 7 := ((my_up_fld fh31 (by decide)).trans (rfl : h 151 7 = h 151 7))
      have npsR : sm h31 = sm h := sm_eq (fun j => my_fr.at gh31 is_153 rfl) (fun j => my_fr.at gh31 is_154 rfl) (fun j => my_fr.at gh31 is_155 rfl)
      have ce32 : h31 151 7 = v28 := ((my_up_fld fh31 (by decide)).trans ev28.symm)
      have c33 := (my_up_self fh31)
      exact w_vret gz_183_26 gm_183 (k0 h31 (gh31) (by omega) (by omega) (by first | assumption | omega | (subst_vars; omega) | omega) (by first | assumption | omega | (subst_vars; omega) | omega) (by first | assumption | omega | (subst_vars; omega) | omega) Tok_h31)
    ·
      refine w_iconst gz_184_35 (by decide) ?_
      refine w_goto (t := 40) gz_184_36 rfl ?_
      refine w_bret gz_184_40 gm_184 (by omega) (by omega) ?_
      show wp l rho (d + 1) 183 5 [(2, 151), (0, 59)] [(0, 1)] h Q
      refine w_ifeq (t := 21) gz_183_5 rfl (fun u34 => by exfalso; omega) (fun u34 => ?_)
      refine w_aload_n gz_183_8 rfl ?_
      refine w_dup gz_183_9 rfl ?_
      refine v_getI (j := 7) gz_183_10 rfl is_151 rd_10 rfl (fun v35 ev35 pv35 qv35 => ?_)
      have zv35 := ev35.trans ev19.symm
      refine w_iconst gz_183_13 (by decide) ?_
      refine w_iadd gz_183_14 ⟨by omega, by omega⟩ ?_
      have hi36 : 0 ≤ (v35 + 1) := by have q := Tok_at n_Tok; omega
      have hi37 : (v35 + 1) ≤ 1001 := by have q := Tok_at n_Tok; omega
      refine v_putI (j := 7) gz_183_15 rfl is_151 rd_10 rfl (by omega) (by omega) rfl (fun h38 fh38 => ?_)
      have gh38 : my_fr [(10, 7), (10, 8)] h h38 := my_fr.up my_fr.rf is_151 fh38 rfl
      have ps39 : h38 151 7 = (sN (sm h) (h 151 7)) := by
        rw [my_up_self fh38]
        show (v35 + 1) = h 151 7 + 1
        omega
      have Tok_h38t40 : Tok h38 := by first | exact Tok_inc n_Tok (by subst_vars; omega) (by omega) fh38 | exact Tok_set n_Tok (by omega) fh38 | omega
      refine w_goto (t := 26) gz_183_18 rfl ?_
      have psR : h38 151 7 = (sN (sm h) (h 151 7)) := ps39
      have npsR : sm h38 = sm h := sm_eq (fun j => my_fr.at gh38 is_153 rfl) (fun j => my_fr.at gh38 is_154 rfl) (fun j => my_fr.at gh38 is_155 rfl)
      have ce41 : h38 151 7 = (v35 + 1) := (my_up_self fh38)
      have c42 := (my_up_self fh38)
      have c43 := ((my_up_fld fh38 (by decide)).trans ev1.symm)
      exact w_vret gz_183_26 gm_183 (k1 h38 (gh38) (by omega) (by omega) (by omega) (by first | assumption | omega | (subst_vars; omega) | omega) (by first | assumption | omega | (subst_vars; omega) | omega) (by first | assumption | omega | (subst_vars; omega) | omega) Tok_h38t40)
theorem c_Model_takeNumber9_f1 {l : Launch} {rho : Nat → Int32} {d : Nat} {h : my_H} {Q : my_H → my_V → Prop} {x1 : Int} (a1 : (-1) ≤ x1) (b1 : x1 ≤ 19) (xf : Int) (cf : h 151 8 = xf) (cf1 : 1 ≤ xf) (cf2 : xf ≤ 16005) (n_Tok : Tok h) (k0 : 1 ≤ h 151 8 → h 151 8 ≤ 16005 → h 151 7 = h 151 7 → Tok h → Q h (0, 0)) : wp l rho (d + 1) 187 0 [(2, 151), (0, x1)] [] h Q := by
  refine v_know (x := 151) (j := 7) (b := 7) rfl is_151 rd_10 rfl (fun k151_7 ek151_7 pk151_7 qk151_7 => ?_)
  refine w_aload_n gz_187_0 rfl ?_
  refine v_getI (j := 8) gz_187_1 rfl is_151 rd_10 rfl (fun v1 ev1 pv1 qv1 => ?_)
  have zv1 := ev1.trans cf
  refine w_ifne (t := 28) gz_187_4 rfl (fun u2 => ?_) (fun u2 => by exfalso; omega)
  refine w_aload_n gz_187_28 rfl ?_
  refine v_getI (j := 8) gz_187_29 rfl is_151 rd_10 rfl (fun v3 ev3 pv3 qv3 => ?_)
  have zv3 := ev3.trans ev1.symm
  refine w_ifne (t := 55) gz_187_32 rfl (fun u4 => ?_) (fun u4 => by exfalso; omega)
  refine w_aload_n gz_187_55 rfl ?_
  refine v_getI (j := 8) gz_187_56 rfl is_151 rd_10 rfl (fun v5 ev5 pv5 qv5 => ?_)
  have zv5 := ev5.trans ev3.symm
  refine w_ifle (t := 64) gz_187_59 rfl (fun u6 => by exfalso; omega) (fun u6 => ?_)
  refine w_iconst gz_187_62 (by decide) ?_
  have psR : h 151 7 = h 151 7 := (rfl : h 151 7 = h 151 7)
  have npsR : sm h = sm h := rfl
  have ce7 : h 151 7 = k151_7 := ek151_7.symm
  have c8 := ev5.symm
  exact w_iret gz_187_63 gm_187 (k0 (by omega) (by omega) (by first | assumption | omega | (subst_vars; omega) | omega) n_Tok)
theorem c_Model_takeNumber9_f0 {l : Launch} {rho : Nat → Int32} {d : Nat} {h : my_H} {Q : my_H → my_V → Prop} {x1 : Int} (a1 : (-1) ≤ x1) (b1 : x1 ≤ 19) (cf : h 151 8 = 0) (n_Tok : Tok h) (k0 : ∀ (h' : my_H), my_fr [(10, 7), (10, 8)] h h' → 1 ≤ h' 151 8 → h' 151 8 ≤ 16004 → h' 151 7 = h 151 7 → (sK (sm h) (h 151 7) ≠ 2 ∧ h' 151 8 = 1 + 16 * sP (sm h) (h 151 7)) ∨ (sK (sm h) (h 151 7) = 2 ∧ x1 < sV (sm h) (h 151 7) ∧ h' 151 8 = 4 + 16 * sP (sm h) (h 151 7)) → Tok h' → Q h' (0, 0)) (k1 : ∀ (h' : my_H) (y : Int), my_fr [(10, 7), (10, 8)] h h' → 0 ≤ y → y ≤ 999 → 1 ≤ h' 151 7 → h' 151 7 ≤ 1001 → h' 151 8 = 0 → 0 ≤ y → y ≤ x1 → h' 151 7 = h 151 7 + 1 → h 153 (h 151 7) = 2 → y = h 155 (h 151 7) → h' 151 7 = sN (sm h) (h 151 7) → sK (sm h) (h 151 7) = 2 → y = sV (sm h) (h 151 7) → Tok h' → Q h' (0, y)) : wp l rho (d + 1) 187 0 [(2, 151), (0, x1)] [] h Q := by
  refine v_know (x := 151) (j := 7) (b := 7) rfl is_151 rd_10 rfl (fun k151_7 ek151_7 pk151_7 qk151_7 => ?_)
  refine w_aload_n gz_187_0 rfl ?_
  refine v_getI (j := 8) gz_187_1 rfl is_151 rd_10 rfl (fun v1 ev1 pv1 qv1 => ?_)
  have zv1 := ev1.trans cf
  refine w_ifne (t := 28) gz_187_4 rfl (fun u2 => by exfalso; omega) (fun u2 => ?_)
  refine w_aload_n gz_187_7 rfl ?_
  refine w_getX (v := 153) gz_187_8 is_151 rd_10 rfl (by decide) rfl ?_
  refine w_aload_n gz_187_11 rfl ?_
  refine v_getI (j := 7) gz_187_12 rfl is_151 rd_10 rfl (fun v4 ev4 pv4 qv4 => ?_)
  have zv4 := ev4.trans ek151_7.symm
  refine w_iald gz_187_15 is_153 rd_52 (by omega) (by omega) (fun v5 ev5 pv5 qv5 => ?_)
  have nz6 : (v5 ≠ 3 → sK (sm h) (h 151 7) = v5) ∧ (v5 = 3 → sV (sm h) (h 151 7) = 59 → sK (sm h) (h 151 7) = 3) ∧ (v5 = 3 → sV (sm h) (h 151 7) ≠ 59 → sK (sm h) (h 151 7) = 4) := by
    have q := ev5
    rw [show (v4 : Int) = h 151 7 from by omega] at q
    exact sK_ld q
  refine w_iconst gz_187_16 (by decide) ?_
  refine w_iceq (t := 28) gz_187_17 rfl (fun u7 => ?_) (fun u7 => ?_)
  ·
    refine w_aload_n gz_187_28 rfl ?_
    refine v_getI (j := 8) gz_187_29 rfl is_151 rd_10 rfl (fun v8 ev8 pv8 qv8 => ?_)
    have zv8 := ev8.trans ev1.symm
    refine w_ifne (t := 55) gz_187_32 rfl (fun u9 => by exfalso; omega) (fun u9 => ?_)
    refine w_aload_n gz_187_35 rfl ?_
    refine w_getX (v := 155) gz_187_36 is_151 rd_10 rfl (by decide) rfl ?_
    refine w_aload_n gz_187_39 rfl ?_
    refine v_getI (j := 7) gz_187_40 rfl is_151 rd_10 rfl (fun v11 ev11 pv11 qv11 => ?_)
    have zv11 := ev11.trans ev4.symm
    refine w_lald gz_187_43 is_155 rd_54 (by omega) (by omega) (fun v12 ev12 pv12 => ?_)
    have nz13 : v12 = sV (sm h) (h 151 7) := by
      have q := ev12
      rw [show (v11 : Int) = h 151 7 from by omega] at q
      exact q
    refine w_iload_n gz_187_44 rfl ?_
    refine w_i2l gz_187_45 ?_
    refine w_lcmpE gz_187_46 (fun v14 pv14 qv14 xv14 => ?_)
    refine w_ifle (t := 55) gz_187_47 rfl (fun u15 => ?_) (fun u15 => ?_)
    ·
      refine w_aload_n gz_187_55 rfl ?_
      refine v_getI (j := 8) gz_187_56 rfl is_151 rd_10 rfl (fun v16 ev16 pv16 qv16 => ?_)
      have zv16 := ev16.trans ev8.symm
      refine w_ifle (t := 64) gz_187_59 rfl (fun u17 => ?_) (fun u17 => by exfalso; omega)
      refine w_aload_n gz_187_64 rfl ?_
      refine w_dup gz_187_65 rfl ?_
      refine v_getI (j := 7) gz_187_66 rfl is_151 rd_10 rfl (fun v18 ev18 pv18 qv18 => ?_)
      have zv18 := ev18.trans ev11.symm
      refine w_iconst gz_187_69 (by decide) ?_
      refine w_iadd gz_187_70 ⟨by omega, by omega⟩ ?_
      have tq := Tok_at n_Tok
      have s153 : h 153 (h 151 7) = 2 := by
        rw [show h 151 7 = v4 by omega]
        omega
      have hi19 : 0 ≤ (v18 + 1) := by have q := Tok_at n_Tok; omega
      have hi20 : (v18 + 1) ≤ 1001 := by have q := Tok_at n_Tok; omega
      refine v_putI (j := 7) gz_187_71 rfl is_151 rd_10 rfl (by omega) (by omega) rfl (fun h21 fh21 => ?_)
      have gh21 : my_fr [(10, 7), (10, 8)] h h21 := my_fr.up my_fr.rf is_151 fh21 rfl
      have ps22 : h21 151 7 = (sN (sm h) (h 151 7)) := by
        rw [my_up_self fh21]
        show (v18 + 1) = h 151 7 + 1
        omega
      have Tok_h21t23 : Tok h21 := by first | exact Tok_inc n_Tok (by subst_vars; omega) (by omega) fh21 | exact Tok_set n_Tok (by omega) fh21 | omega
      refine w_aload_n gz_187_74 rfl ?_
      refine w_getX (v := 155) gz_187_75 is_151 rd_10 rfl (by decide) rfl ?_
      refine w_aload_n gz_187_78 rfl ?_
      refine v_getI (j := 7) gz_187_79 rfl is_151 rd_10 rfl (fun v25 ev25 pv25 qv25 => ?_)
      have zv25 := ev25.trans (my_up_self fh21)
      refine w_iconst gz_187_82 (by decide) ?_
      refine w_isub gz_187_83 ⟨by omega, by omega⟩ ?_
      have hi26 : 0 ≤ (v25 - 1) := by omega
      have hi27 : (v25 - 1) ≤ 1000 := by omega
      refine w_lald gz_187_84 is_155 rd_54 (by omega) (by omega) (fun v28 ev28 pv28 => ?_)
      have nz29a : h21 151 7 = (sN (sm h) (h 151 7)) := ps22
      have nz29b : sN (sm h) (h 151 7) = h 151 7 + 1 := rfl
      have nz29 : v28 = sV (sm h) (h 151 7) := by
        have q := ev28.trans (my_fr.at (j := (v25 - 1)) gh21 is_155 rfl)
        rw [show ((v25 - 1) : Int) = h 151 7 from by omega] at q
        exact q
      have vv : sV (sm h) (h 151 7) = h 155 (h 151 7) := rfl
      have tb : 0 ≤ v28 ∧ v28 ≤ 999 ∧ v28 ≤ x1 := by
        have q := tq.2.2.2 s153
        omega
      have tc : v28 = h 155 (h 151 7) := by omega
      refine w_l2iE gz_187_85 (fun v30 pv30 qv30 xv30 => ?_)
      have hi31 : 0 ≤ v30 := by omega
      have hi32 : v30 ≤ 999 := by omega
      have psR : h21 151 7 = (sN (sm h) (h 151 7)) := ps22
      have npsR : sm h21 = sm h := sm_eq (fun j => my_fr.at gh21 is_153 rfl) (fun j => my_fr.at gh21 is_154 rfl) (fun j => my_fr.at gh21 is_155 rfl)
      have ce33 : h21 151 7 = v25 := ev25.symm
      have c34 := ev25.symm
      have c35 := ((my_up_fld fh21 (by decide)).trans ev16.symm)
      exact w_iret gz_187_86 gm_187 (k1 h21 (v30) (gh21) (by omega) (by omega) (by omega) (by omega) (by omega) (by first | assumption | omega | (subst_vars; omega) | omega) (by first | assumption | omega | (subst_vars; omega) | omega) (by first | assumption | omega | (subst_vars; omega) | omega) (by first | assumption | omega | (subst_vars; omega) | omega) (by first | assumption | omega | (subst_vars; omega) | omega) (by first | assumption | omega | (subst_vars; omega) | omega) (by first | assumption | omega | (subst_vars; omega) | omega) (by first | assumption | omega | (subst_vars; omega) | omega) Tok_h21t23)
    ·
      refine w_aload_n gz_187_50 rfl ?_
      refine w_iconst gz_187_51 (by decide) ?_
      refine w_inv (k := 0) (as := [(0, 4)]) (r := []) (x := 151) (ls0 := [(2, 151), (0, 4)]) gz_187_52 gm_178 rfl is_151 rd_10 rfl rfl rfl rfl rfl ?_
      refine w_aload_n gz_178_0 rfl ?_
      refine v_getI (j := 8) gz_178_1 rfl is_151 rd_10 rfl (fun v36 ev36 pv36 qv36 => ?_)
      have zv36 := ev36.trans ev8.symm
      refine w_ifne (t := 25) gz_178_4 rfl (fun u37 => by exfalso; omega) (fun u37 => ?_)
      refine w_aload_n gz_178_7 rfl ?_
      refine w_iload_n gz_178_8 rfl ?_
      refine w_bipush gz_178_9 (by decide) ?_
      refine w_aload_n gz_178_11 rfl ?_
      refine w_getX (v := 154) gz_178_12 is_151 rd_10 rfl (by decide) rfl ?_
      refine w_aload_n gz_178_15 rfl ?_
      refine v_getI (j := 7) gz_178_16 rfl is_151 rd_10 rfl (fun v39 ev39 pv39 qv39 => ?_)
      have zv39 := ev39.trans ev11.symm
      refine w_iald gz_178_19 is_154 rd_53 (by omega) (by omega) (fun v40 ev40 pv40 qv40 => ?_)
      have nz41 : v40 = sP (sm h) (h 151 7) := by
        have q := ev40
        rw [show (v39 : Int) = h 151 7 from by omega] at q
        exact q
      refine w_imul gz_178_20 ⟨by omega, by omega⟩ ?_
      refine w_iadd gz_178_21 ⟨by omega, by omega⟩ ?_
      refine v_putI (j := 8) gz_178_22 rfl is_151 rd_10 rfl (by omega) (by omega) rfl (fun h42 fh42 => ?_)
      have gh42 : my_fr [(10, 7), (10, 8)] h h42 := my_fr.up my_fr.rf is_151 fh42 rfl
      have Tok_h42 : Tok h42 := Tok_ag (my_ag.up fh42 is_151 rfl) n_Tok
      refine w_vret gz_178_25 gm_178 ?_
      show wp l rho (d + 1) 187 55 [(2, 151), (0, x1)] [] h42 Q
      refine w_aload_n gz_187_55 rfl ?_
      refine v_getI (j := 8) gz_187_56 rfl is_151 rd_10 rfl (fun v43 ev43 pv43 qv43 => ?_)
      have zv43 := ev43.trans (my_up_self fh42)
      refine w_ifle (t := 64) gz_187_59 rfl (fun u44 => by exfalso; omega) (fun u44 => ?_)
      refine w_iconst gz_187_62 (by decide) ?_
      have psR : h42 151 7 = h 151 7 := ((my_up_fld fh42 (by decide)).trans (rfl : h 151 7 = h 151 7))
      have npsR : sm h42 = sm h := sm_eq (fun j => my_fr.at gh42 is_153 rfl) (fun j => my_fr.at gh42 is_154 rfl) (fun j => my_fr.at gh42 is_155 rfl)
      have ce45 : h42 151 7 = v39 := ((my_up_fld fh42 (by decide)).trans ev39.symm)
      have c46 := ev43.symm
      exact w_iret gz_187_63 gm_187 (k0 h42 (gh42) (by omega) (by omega) (by first | assumption | omega | (subst_vars; omega) | omega) (by first | assumption | omega | (subst_vars; omega) | omega) Tok_h42)
  ·
    refine w_aload_n gz_187_20 rfl ?_
    refine w_iconst gz_187_21 (by decide) ?_
    refine w_inv (k := 0) (as := [(0, 1)]) (r := []) (x := 151) (ls0 := [(2, 151), (0, 1)]) gz_187_22 gm_178 rfl is_151 rd_10 rfl rfl rfl rfl rfl ?_
    refine w_aload_n gz_178_0 rfl ?_
    refine v_getI (j := 8) gz_178_1 rfl is_151 rd_10 rfl (fun v47 ev47 pv47 qv47 => ?_)
    have zv47 := ev47.trans ev1.symm
    refine w_ifne (t := 25) gz_178_4 rfl (fun u48 => by exfalso; omega) (fun u48 => ?_)
    refine w_aload_n gz_178_7 rfl ?_
    refine w_iload_n gz_178_8 rfl ?_
    refine w_bipush gz_178_9 (by decide) ?_
    refine w_aload_n gz_178_11 rfl ?_
    refine w_getX (v := 154) gz_178_12 is_151 rd_10 rfl (by decide) rfl ?_
    refine w_aload_n gz_178_15 rfl ?_
    refine v_getI (j := 7) gz_178_16 rfl is_151 rd_10 rfl (fun v50 ev50 pv50 qv50 => ?_)
    have zv50 := ev50.trans ev4.symm
    refine w_iald gz_178_19 is_154 rd_53 (by omega) (by omega) (fun v51 ev51 pv51 qv51 => ?_)
    have nz52 : v51 = sP (sm h) (h 151 7) := by
      have q := ev51
      rw [show (v50 : Int) = h 151 7 from by omega] at q
      exact q
    refine w_imul gz_178_20 ⟨by omega, by omega⟩ ?_
    refine w_iadd gz_178_21 ⟨by omega, by omega⟩ ?_
    refine v_putI (j := 8) gz_178_22 rfl is_151 rd_10 rfl (by omega) (by omega) rfl (fun h53 fh53 => ?_)
    have gh53 : my_fr [(10, 7), (10, 8)] h h53 := my_fr.up my_fr.rf is_151 fh53 rfl
    have Tok_h53 : Tok h53 := Tok_ag (my_ag.up fh53 is_151 rfl) n_Tok
    refine w_vret gz_178_25 gm_178 ?_
    show wp l rho (d + 1) 187 25 [(2, 151), (0, x1)] [] h53 Q
    refine w_goto (t := 55) gz_187_25 rfl ?_
    refine w_aload_n gz_187_55 rfl ?_
    refine v_getI (j := 8) gz_187_56 rfl is_151 rd_10 rfl (fun v54 ev54 pv54 qv54 => ?_)
    have zv54 := ev54.trans (my_up_self fh53)
    refine w_ifle (t := 64) gz_187_59 rfl (fun u55 => by exfalso; omega) (fun u55 => ?_)
    refine w_iconst gz_187_62 (by decide) ?_
    have psR : h53 151 7 = h 151 7 := ((my_up_fld fh53 (by decide)).trans (rfl : h 151 7 = h 151 7))
    have npsR : sm h53 = sm h := sm_eq (fun j => my_fr.at gh53 is_153 rfl) (fun j => my_fr.at gh53 is_154 rfl) (fun j => my_fr.at gh53 is_155 rfl)
    have ce56 : h53 151 7 = v50 := ((my_up_fld fh53 (by decide)).trans ev50.symm)
    have c57 := ev54.symm
    exact w_iret gz_187_63 gm_187 (k0 h53 (gh53) (by omega) (by omega) (by first | assumption | omega | (subst_vars; omega) | omega) (by first | assumption | omega | (subst_vars; omega) | omega) Tok_h53)
theorem c_Model_takeNumber9_fq {l : Launch} {rho : Nat → Int32} {d : Nat} {h : my_H} {Q : my_H → my_V → Prop} (n_Tok : Tok h) (k0 : ∀ (h' : my_H), my_fr [(10, 7), (10, 8)] h h' → 1 ≤ h' 151 8 → h' 151 8 ≤ 16005 → h' 151 7 = h 151 7 → (h 151 8 ≠ 0 ∧ h' 151 8 = h 151 8) ∨ (h 151 8 = 0 ∧ ((sK (sm h) (h 151 7) ≠ 2 ∧ h' 151 8 = 1 + 16 * sP (sm h) (h 151 7)) ∨ (sK (sm h) (h 151 7) = 2 ∧ 199 < sV (sm h) (h 151 7) ∧ h' 151 8 = 4 + 16 * sP (sm h) (h 151 7)))) → Tok h' → Q h' (0, 0)) (k1 : ∀ (h' : my_H) (y : Int), my_fr [(10, 7), (10, 8)] h h' → 0 ≤ y → y ≤ 999 → 1 ≤ h' 151 7 → h' 151 7 ≤ 1001 → h' 151 8 = 0 → 0 ≤ y → y ≤ 199 → h' 151 7 = h 151 7 + 1 → h 153 (h 151 7) = 2 → y = h 155 (h 151 7) → h' 151 7 = sN (sm h) (h 151 7) → sK (sm h) (h 151 7) = 2 → y = sV (sm h) (h 151 7) → Tok h' → Q h' (0, y)) : wp l rho (d + 1) 187 0 [(2, 151), (0, 199)] [] h Q := by
  refine v_know (x := 151) (j := 7) (b := 7) rfl is_151 rd_10 rfl (fun k151_7 ek151_7 pk151_7 qk151_7 => ?_)
  refine w_aload_n gz_187_0 rfl ?_
  refine v_getI (j := 8) gz_187_1 rfl is_151 rd_10 rfl (fun v1 ev1 pv1 qv1 => ?_)
  refine w_ifne (t := 28) gz_187_4 rfl (fun u2 => ?_) (fun u2 => ?_)
  ·
    refine w_aload_n gz_187_28 rfl ?_
    refine v_getI (j := 8) gz_187_29 rfl is_151 rd_10 rfl (fun v3 ev3 pv3 qv3 => ?_)
    have zv3 := ev3.trans ev1.symm
    refine w_ifne (t := 55) gz_187_32 rfl (fun u4 => ?_) (fun u4 => by exfalso; omega)
    refine w_aload_n gz_187_55 rfl ?_
    refine v_getI (j := 8) gz_187_56 rfl is_151 rd_10 rfl (fun v5 ev5 pv5 qv5 => ?_)
    have zv5 := ev5.trans ev3.symm
    refine w_ifle (t := 64) gz_187_59 rfl (fun u6 => by exfalso; omega) (fun u6 => ?_)
    refine w_iconst gz_187_62 (by decide) ?_
    have psR : h 151 7 = h 151 7 := (rfl : h 151 7 = h 151 7)
    have npsR : sm h = sm h := rfl
    have ce7 : h 151 7 = k151_7 := ek151_7.symm
    have c8 := ev5.symm
    exact w_iret gz_187_63 gm_187 (k0 h (my_fr.rf) (by omega) (by omega) (by first | assumption | omega | (subst_vars; omega) | omega) (by first | assumption | omega | (subst_vars; omega) | omega) n_Tok)
  ·
    refine w_aload_n gz_187_7 rfl ?_
    refine w_getX (v := 153) gz_187_8 is_151 rd_10 rfl (by decide) rfl ?_
    refine w_aload_n gz_187_11 rfl ?_
    refine v_getI (j := 7) gz_187_12 rfl is_151 rd_10 rfl (fun v10 ev10 pv10 qv10 => ?_)
    have zv10 := ev10.trans ek151_7.symm
    refine w_iald gz_187_15 is_153 rd_52 (by omega) (by omega) (fun v11 ev11 pv11 qv11 => ?_)
    have nz12 : (v11 ≠ 3 → sK (sm h) (h 151 7) = v11) ∧ (v11 = 3 → sV (sm h) (h 151 7) = 59 → sK (sm h) (h 151 7) = 3) ∧ (v11 = 3 → sV (sm h) (h 151 7) ≠ 59 → sK (sm h) (h 151 7) = 4) := by
      have q := ev11
      rw [show (v10 : Int) = h 151 7 from by omega] at q
      exact sK_ld q
    refine w_iconst gz_187_16 (by decide) ?_
    refine w_iceq (t := 28) gz_187_17 rfl (fun u13 => ?_) (fun u13 => ?_)
    ·
      refine w_aload_n gz_187_28 rfl ?_
      refine v_getI (j := 8) gz_187_29 rfl is_151 rd_10 rfl (fun v14 ev14 pv14 qv14 => ?_)
      have zv14 := ev14.trans ev1.symm
      refine w_ifne (t := 55) gz_187_32 rfl (fun u15 => by exfalso; omega) (fun u15 => ?_)
      refine w_aload_n gz_187_35 rfl ?_
      refine w_getX (v := 155) gz_187_36 is_151 rd_10 rfl (by decide) rfl ?_
      refine w_aload_n gz_187_39 rfl ?_
      refine v_getI (j := 7) gz_187_40 rfl is_151 rd_10 rfl (fun v17 ev17 pv17 qv17 => ?_)
      have zv17 := ev17.trans ev10.symm
      refine w_lald gz_187_43 is_155 rd_54 (by omega) (by omega) (fun v18 ev18 pv18 => ?_)
      have nz19 : v18 = sV (sm h) (h 151 7) := by
        have q := ev18
        rw [show (v17 : Int) = h 151 7 from by omega] at q
        exact q
      refine w_iload_n gz_187_44 rfl ?_
      refine w_i2l gz_187_45 ?_
      refine w_lcmpE gz_187_46 (fun v20 pv20 qv20 xv20 => ?_)
      refine w_ifle (t := 55) gz_187_47 rfl (fun u21 => ?_) (fun u21 => ?_)
      ·
        refine w_aload_n gz_187_55 rfl ?_
        refine v_getI (j := 8) gz_187_56 rfl is_151 rd_10 rfl (fun v22 ev22 pv22 qv22 => ?_)
        have zv22 := ev22.trans ev14.symm
        refine w_ifle (t := 64) gz_187_59 rfl (fun u23 => ?_) (fun u23 => by exfalso; omega)
        refine w_aload_n gz_187_64 rfl ?_
        refine w_dup gz_187_65 rfl ?_
        refine v_getI (j := 7) gz_187_66 rfl is_151 rd_10 rfl (fun v24 ev24 pv24 qv24 => ?_)
        have zv24 := ev24.trans ev17.symm
        refine w_iconst gz_187_69 (by decide) ?_
        refine w_iadd gz_187_70 ⟨by omega, by omega⟩ ?_
        have tq := Tok_at n_Tok
        have s153 : h 153 (h 151 7) = 2 := by
          rw [show h 151 7 = v10 by omega]
          omega
        have hi25 : 0 ≤ (v24 + 1) := by have q := Tok_at n_Tok; omega
        have hi26 : (v24 + 1) ≤ 1001 := by have q := Tok_at n_Tok; omega
        refine v_putI (j := 7) gz_187_71 rfl is_151 rd_10 rfl (by omega) (by omega) rfl (fun h27 fh27 => ?_)
        have gh27 : my_fr [(10, 7), (10, 8)] h h27 := my_fr.up my_fr.rf is_151 fh27 rfl
        have ps28 : h27 151 7 = (sN (sm h) (h 151 7)) := by
          rw [my_up_self fh27]
          show (v24 + 1) = h 151 7 + 1
          omega
        have Tok_h27t29 : Tok h27 := by first | exact Tok_inc n_Tok (by subst_vars; omega) (by omega) fh27 | exact Tok_set n_Tok (by omega) fh27 | omega
        refine w_aload_n gz_187_74 rfl ?_
        refine w_getX (v := 155) gz_187_75 is_151 rd_10 rfl (by decide) rfl ?_
        refine w_aload_n gz_187_78 rfl ?_
        refine v_getI (j := 7) gz_187_79 rfl is_151 rd_10 rfl (fun v31 ev31 pv31 qv31 => ?_)
        have zv31 := ev31.trans (my_up_self fh27)
        refine w_iconst gz_187_82 (by decide) ?_
        refine w_isub gz_187_83 ⟨by omega, by omega⟩ ?_
        have hi32 : 0 ≤ (v31 - 1) := by omega
        have hi33 : (v31 - 1) ≤ 1000 := by omega
        refine w_lald gz_187_84 is_155 rd_54 (by omega) (by omega) (fun v34 ev34 pv34 => ?_)
        have nz35a : h27 151 7 = (sN (sm h) (h 151 7)) := ps28
        have nz35b : sN (sm h) (h 151 7) = h 151 7 + 1 := rfl
        have nz35 : v34 = sV (sm h) (h 151 7) := by
          have q := ev34.trans (my_fr.at (j := (v31 - 1)) gh27 is_155 rfl)
          rw [show ((v31 - 1) : Int) = h 151 7 from by omega] at q
          exact q
        have vv : sV (sm h) (h 151 7) = h 155 (h 151 7) := rfl
        have tb : 0 ≤ v34 ∧ v34 ≤ 999 ∧ v34 ≤ 199 := by
          have q := tq.2.2.2 s153
          omega
        have tc : v34 = h 155 (h 151 7) := by omega
        refine w_l2iE gz_187_85 (fun v36 pv36 qv36 xv36 => ?_)
        have hi37 : 0 ≤ v36 := by omega
        have hi38 : v36 ≤ 999 := by omega
        have psR : h27 151 7 = (sN (sm h) (h 151 7)) := ps28
        have npsR : sm h27 = sm h := sm_eq (fun j => my_fr.at gh27 is_153 rfl) (fun j => my_fr.at gh27 is_154 rfl) (fun j => my_fr.at gh27 is_155 rfl)
        have ce39 : h27 151 7 = v31 := ev31.symm
        have c40 := ev31.symm
        have c41 := ((my_up_fld fh27 (by decide)).trans ev22.symm)
        exact w_iret gz_187_86 gm_187 (k1 h27 (v36) (gh27) (by omega) (by omega) (by omega) (by omega) (by omega) (by first | assumption | omega | (subst_vars; omega) | omega) (by first | assumption | omega | (subst_vars; omega) | omega) (by first | assumption | omega | (subst_vars; omega) | omega) (by first | assumption | omega | (subst_vars; omega) | omega) (by first | assumption | omega | (subst_vars; omega) | omega) (by first | assumption | omega | (subst_vars; omega) | omega) (by first | assumption | omega | (subst_vars; omega) | omega) (by first | assumption | omega | (subst_vars; omega) | omega) Tok_h27t29)
      ·
        refine w_aload_n gz_187_50 rfl ?_
        refine w_iconst gz_187_51 (by decide) ?_
        refine w_inv (k := 0) (as := [(0, 4)]) (r := []) (x := 151) (ls0 := [(2, 151), (0, 4)]) gz_187_52 gm_178 rfl is_151 rd_10 rfl rfl rfl rfl rfl ?_
        refine w_aload_n gz_178_0 rfl ?_
        refine v_getI (j := 8) gz_178_1 rfl is_151 rd_10 rfl (fun v42 ev42 pv42 qv42 => ?_)
        have zv42 := ev42.trans ev14.symm
        refine w_ifne (t := 25) gz_178_4 rfl (fun u43 => by exfalso; omega) (fun u43 => ?_)
        refine w_aload_n gz_178_7 rfl ?_
        refine w_iload_n gz_178_8 rfl ?_
        refine w_bipush gz_178_9 (by decide) ?_
        refine w_aload_n gz_178_11 rfl ?_
        refine w_getX (v := 154) gz_178_12 is_151 rd_10 rfl (by decide) rfl ?_
        refine w_aload_n gz_178_15 rfl ?_
        refine v_getI (j := 7) gz_178_16 rfl is_151 rd_10 rfl (fun v45 ev45 pv45 qv45 => ?_)
        have zv45 := ev45.trans ev17.symm
        refine w_iald gz_178_19 is_154 rd_53 (by omega) (by omega) (fun v46 ev46 pv46 qv46 => ?_)
        have nz47 : v46 = sP (sm h) (h 151 7) := by
          have q := ev46
          rw [show (v45 : Int) = h 151 7 from by omega] at q
          exact q
        refine w_imul gz_178_20 ⟨by omega, by omega⟩ ?_
        refine w_iadd gz_178_21 ⟨by omega, by omega⟩ ?_
        refine v_putI (j := 8) gz_178_22 rfl is_151 rd_10 rfl (by omega) (by omega) rfl (fun h48 fh48 => ?_)
        have gh48 : my_fr [(10, 7), (10, 8)] h h48 := my_fr.up my_fr.rf is_151 fh48 rfl
        have Tok_h48 : Tok h48 := Tok_ag (my_ag.up fh48 is_151 rfl) n_Tok
        refine w_vret gz_178_25 gm_178 ?_
        show wp l rho (d + 1) 187 55 [(2, 151), (0, 199)] [] h48 Q
        refine w_aload_n gz_187_55 rfl ?_
        refine v_getI (j := 8) gz_187_56 rfl is_151 rd_10 rfl (fun v49 ev49 pv49 qv49 => ?_)
        have zv49 := ev49.trans (my_up_self fh48)
        refine w_ifle (t := 64) gz_187_59 rfl (fun u50 => by exfalso; omega) (fun u50 => ?_)
        refine w_iconst gz_187_62 (by decide) ?_
        have psR : h48 151 7 = h 151 7 := ((my_up_fld fh48 (by decide)).trans (rfl : h 151 7 = h 151 7))
        have npsR : sm h48 = sm h := sm_eq (fun j => my_fr.at gh48 is_153 rfl) (fun j => my_fr.at gh48 is_154 rfl) (fun j => my_fr.at gh48 is_155 rfl)
        have ce51 : h48 151 7 = v45 := ((my_up_fld fh48 (by decide)).trans ev45.symm)
        have c52 := ev49.symm
        exact w_iret gz_187_63 gm_187 (k0 h48 (gh48) (by omega) (by omega) (by first | assumption | omega | (subst_vars; omega) | omega) (by first | assumption | omega | (subst_vars; omega) | omega) Tok_h48)
    ·
      refine w_aload_n gz_187_20 rfl ?_
      refine w_iconst gz_187_21 (by decide) ?_
      refine w_inv (k := 0) (as := [(0, 1)]) (r := []) (x := 151) (ls0 := [(2, 151), (0, 1)]) gz_187_22 gm_178 rfl is_151 rd_10 rfl rfl rfl rfl rfl ?_
      refine w_aload_n gz_178_0 rfl ?_
      refine v_getI (j := 8) gz_178_1 rfl is_151 rd_10 rfl (fun v53 ev53 pv53 qv53 => ?_)
      have zv53 := ev53.trans ev1.symm
      refine w_ifne (t := 25) gz_178_4 rfl (fun u54 => by exfalso; omega) (fun u54 => ?_)
      refine w_aload_n gz_178_7 rfl ?_
      refine w_iload_n gz_178_8 rfl ?_
      refine w_bipush gz_178_9 (by decide) ?_
      refine w_aload_n gz_178_11 rfl ?_
      refine w_getX (v := 154) gz_178_12 is_151 rd_10 rfl (by decide) rfl ?_
      refine w_aload_n gz_178_15 rfl ?_
      refine v_getI (j := 7) gz_178_16 rfl is_151 rd_10 rfl (fun v56 ev56 pv56 qv56 => ?_)
      have zv56 := ev56.trans ev10.symm
      refine w_iald gz_178_19 is_154 rd_53 (by omega) (by omega) (fun v57 ev57 pv57 qv57 => ?_)
      have nz58 : v57 = sP (sm h) (h 151 7) := by
        have q := ev57
        rw [show (v56 : Int) = h 151 7 from by omega] at q
        exact q
      refine w_imul gz_178_20 ⟨by omega, by omega⟩ ?_
      refine w_iadd gz_178_21 ⟨by omega, by omega⟩ ?_
      refine v_putI (j := 8) gz_178_22 rfl is_151 rd_10 rfl (by omega) (by omega) rfl (fun h59 fh59 => ?_)
      have gh59 : my_fr [(10, 7), (10, 8)] h h59 := my_fr.up my_fr.rf is_151 fh59 rfl
      have Tok_h59 : Tok h59 := Tok_ag (my_ag.up fh59 is_151 rfl) n_Tok
      refine w_vret gz_178_25 gm_178 ?_
      show wp l rho (d + 1) 187 25 [(2, 151), (0, 199)] [] h59 Q
      refine w_goto (t := 55) gz_187_25 rfl ?_
      refine w_aload_n gz_187_55 rfl ?_
      refine v_getI (j := 8) gz_187_56 rfl is_151 rd_10 rfl (fun v60 ev60 pv60 qv60 => ?_)
      have zv60 := ev60.trans (my_up_self fh59)
      refine w_ifle (t := 64) gz_187_59 rfl (fun u61 => by exfalso; omega) (fun u61 => ?_)
      refine w_iconst gz_187_62 (by decide) ?_
      have psR : h59 151 7 = h 151 7 := ((my_up_fld fh59 (by decide)).trans (rfl : h 151 7 = h 151 7))
      have npsR : sm h59 = sm h := sm_eq (fun j => my_fr.at gh59 is_153 rfl) (fun j => my_fr.at gh59 is_154 rfl) (fun j => my_fr.at gh59 is_155 rfl)
      have ce62 : h59 151 7 = v56 := ((my_up_fld fh59 (by decide)).trans ev56.symm)
      have c63 := ev60.symm
      exact w_iret gz_187_63 gm_187 (k0 h59 (gh59) (by omega) (by omega) (by first | assumption | omega | (subst_vars; omega) | omega) (by first | assumption | omega | (subst_vars; omega) | omega) Tok_h59)
end MYNModel_isWord9_f1
