/-! contracts, printed by wip/gen/gy.py -/
section MYNDesk_isEnough5
theorem c_Desk_isEnough5 {l : Launch} {rho : Nat → Int32} {d : Nat} {h : my_H} {Q : my_H → my_V → Prop} (k0 : 0 ≤ h 94 13 → h 94 13 ≤ 1 → h 94 13 = 0 ∨ h 112 0 = -1 ∨ 1 < h 112 0 → Q h (0, 0)) (k1 : h 94 13 = 1 → h 94 13 ≠ 0 ∧ h 112 0 ≠ -1 ∧ h 112 0 ≤ 1 → Q h (0, 1)) : wp l rho d 100 0 [(2, 94)] [] h Q := by
  refine v_know (x := 94) (j := 13) (b := 13) rfl is_94 rd_2 rfl (fun k94_13 ek94_13 pk94_13 qk94_13 => ?_)
  refine v_know (x := 112) (j := 0) (b := 0) rfl is_112 rd_7 rfl (fun k112_0 ek112_0 pk112_0 qk112_0 => ?_)
  refine w_aload_n gz_100_0 rfl ?_
  refine v_getI (j := 13) gz_100_1 rfl is_94 rd_2 rfl (fun v1 ev1 pv1 qv1 => ?_)
  have zv1 := ev1.trans ek94_13.symm
  refine w_ifeq (t := 33) gz_100_4 rfl (fun u2 => ?_) (fun u2 => ?_)
  ·
    refine w_iconst gz_100_33 (by decide) ?_
    have c3 := ev1.symm
    exact w_bret gz_100_34 gm_100 (by omega) (by omega) (k0 (by omega) (by omega) (by first | exact ⟨by omega, by omega, by omega⟩ | exact Or.inl (by omega) | exact Or.inr (Or.inl (by omega)) | exact Or.inr (Or.inr (by omega)) | assumption | omega))
  ·
    refine w_aload_n gz_100_7 rfl ?_
    refine w_getX (v := 112) gz_100_8 is_94 rd_2 rfl (by decide) rfl ?_
    refine v_getI (j := 0) gz_100_11 rfl is_112 rd_7 rfl (fun v5 ev5 pv5 qv5 => ?_)
    have zv5 := ev5.trans ek112_0.symm
    refine w_iconst gz_100_14 (by decide) ?_
    refine w_iceq (t := 33) gz_100_15 rfl (fun u6 => ?_) (fun u6 => ?_)
    ·
      refine w_iconst gz_100_33 (by decide) ?_
      have c7 := ev1.symm
      exact w_bret gz_100_34 gm_100 (by omega) (by omega) (k0 (by omega) (by omega) (by first | exact ⟨by omega, by omega, by omega⟩ | exact Or.inl (by omega) | exact Or.inr (Or.inl (by omega)) | exact Or.inr (Or.inr (by omega)) | assumption | omega))
    ·
      refine w_aload_n gz_100_18 rfl ?_
      refine w_getX (v := 112) gz_100_19 is_94 rd_2 rfl (by decide) rfl ?_
      refine v_getI (j := 0) gz_100_22 rfl is_112 rd_7 rfl (fun v9 ev9 pv9 qv9 => ?_)
      have zv9 := ev9.trans ev5.symm
      refine w_iconst gz_100_25 (by decide) ?_
      refine w_icgt (t := 33) gz_100_26 rfl (fun u10 => ?_) (fun u10 => ?_)
      ·
        refine w_iconst gz_100_33 (by decide) ?_
        have c11 := ev1.symm
        exact w_bret gz_100_34 gm_100 (by omega) (by omega) (k0 (by omega) (by omega) (by first | exact ⟨by omega, by omega, by omega⟩ | exact Or.inl (by omega) | exact Or.inr (Or.inl (by omega)) | exact Or.inr (Or.inr (by omega)) | assumption | omega))
      ·
        refine w_iconst gz_100_29 (by decide) ?_
        refine w_goto (t := 34) gz_100_30 rfl ?_
        have c12 := ev1.symm
        exact w_bret gz_100_34 gm_100 (by omega) (by omega) (k1 (by omega) (by first | exact ⟨by omega, by omega, by omega⟩ | exact Or.inl (by omega) | exact Or.inr (Or.inl (by omega)) | exact Or.inr (Or.inr (by omega)) | assumption | omega))
theorem c_Rows_drop5 {l : Launch} {rho : Nat → Int32} {d : Nat} {h : my_H} {Q : my_H → my_V → Prop} {x0 x1 x2 : Int} (t0 : my_is 6 x0) (a1 : 0 ≤ x1) (b1 : x1 ≤ 2) (a2 : 0 ≤ x2) (b2 : x2 ≤ 19) (hsz : 0 ≤ h (x0 + 2) x1 ∧ h (x0 + 2) x1 ≤ 10) (k0 : ∀ (h' : my_H), my_fr [(30, -1), (31, -1)] h h' → my_fx x0 2 h h' → (∀ j : Int, h' (x0 + 1) j = zqDrop (h (x0 + 1)) x1 x2 j) → (∀ j : Int, h' (x0 + 2) j = if j = x1 then h (x0 + 2) j - 1 else h (x0 + 2) j) → Q h' (9, 0)) : wp l rho (d + 1) 23 0 [(2, x0), (0, x1), (0, x2), (9, 0), (9, 0)] [] h Q := by
  have J16_0 : ∀ (n : Nat) (p16_0 p16_1 : Int) (h16_0 : my_H), my_fr [(30, -1), (31, -1)] h h16_0 → my_fx x0 2 h h16_0 → 0 ≤ p16_0 → p16_0 ≤ 236 → 1 ≤ p16_1 → p16_1 ≤ 4 → p16_0 = 80 * x1 + 4 * x2 → DrQ h h16_0 x0 x1 x2 p16_1 → (∀ j : Int, h16_0 (x0 + 2) j = h (x0 + 2) j) → 5 - p16_1 ≤ (n : Int) → wp l rho (d + 1) 23 16 [(2, x0), (0, x1), (0, x2), (0, p16_0), (0, p16_1)] [] h16_0 Q := by
    intro n
    induction n with
    | zero => intro p16_0 p16_1 h16_0 gh_16_0 gx_16_0 q0_16_0 q1_16_0 q2_16_0 q3_16_0 pl_16_0 dr_16_0 sz_16_0 hm_16_0; exfalso; omega
    | succ n ih_16_0 =>
      intro p16_0 p16_1 h16_0 gh_16_0 gx_16_0 q0_16_0 q1_16_0 q2_16_0 q3_16_0 pl_16_0 dr_16_0 sz_16_0 hm_16_0
      refine w_iload gz_23_16 rfl ?_
      refine w_iconst gz_23_18 (by decide) ?_
      refine w_icge (t := 38) gz_23_19 rfl (fun u1 => ?_) (fun u1 => ?_)
      ·
        refine w_aload_n gz_23_38 rfl ?_
        refine w_getX (v := (x0 + 2)) gz_23_39 t0 rd_6 rfl (by decide) rfl ?_
        refine w_iload_n gz_23_42 rfl ?_
        refine w_dup2 gz_23_43 rfl rfl ?_
        refine w_iald gz_23_44 (ix_6_2 t0) rd_31 (by omega) (by omega) (fun v3 ev3 pv3 qv3 => ?_)
        refine w_iconst gz_23_45 (by decide) ?_
        have e44 : v3 = h16_0 (x0 + 2) x1 := by omega
        refine w_isubX gz_23_46 (fun v4 xv4 pv4 qv4 => ?_)
        refine w_iastA gz_23_47 (ix_6_2 t0) rd_31 (by omega) (by omega) (fun h5 fh5 => ?_)
        have gh5 : my_fr [(30, -1), (31, -1)] h h5 := my_fr.up gh_16_0 (ix_6_2 t0) fh5 rfl
        have gxh5 : my_fx x0 2 h h5 := my_fx.up gx_16_0 fh5 (by omega)
        exact w_vret gz_23_48 gm_23 (k0 h5 (gh5) (gxh5) (by first | exact DrQ_e dr_16_0 (by omega) fh5 | exact DrQ_z sz_16_0 fh5 rfl hsz (fun z => by omega) | assumption | omega) (by first | exact DrQ_e dr_16_0 (by omega) fh5 | exact DrQ_z sz_16_0 fh5 rfl hsz (fun z => by omega) | assumption | omega))
      ·
        refine w_aload_n gz_23_22 rfl ?_
        refine w_getX (v := (x0 + 1)) gz_23_23 t0 rd_6 rfl (by decide) rfl ?_
        refine w_iload_n gz_23_26 rfl ?_
        refine w_iload gz_23_27 rfl ?_
        refine w_iadd gz_23_29 ⟨by omega, by omega⟩ ?_
        refine w_iconst gz_23_30 (by decide) ?_
        refine w_iast gz_23_31 (ix_6_1 t0) rd_30 (by omega) (by omega) (by omega) (by omega) (fun h7 fh7 => ?_)
        have gh7 : my_fr [(30, -1), (31, -1)] h h7 := my_fr.up gh_16_0 (ix_6_1 t0) fh7 rfl
        have gxh7 : my_fx x0 2 h h7 := my_fx.up gx_16_0 fh7 (by omega)
        refine w_iinc (ls' := [(2, x0), (0, x1), (0, x2), (0, p16_0), (0, (p16_1 + 1))]) gz_23_32 rfl gm_23 rfl rfl rfl ⟨by omega, by omega⟩ ?_
        refine w_goto (t := 16) gz_23_35 rfl ?_
        exact ih_16_0 (p16_0) ((p16_1 + 1)) h7 (gh7) (gxh7) (by omega) (by omega) (by omega) (by omega) (by omega) (by first | exact DrQ_0 fh7 (by omega) | exact DrQ_s (by omega) dr_16_0 fh7 (by omega) | assumption | omega) (by first | exact (fun j => (my_up_ne fh7 (by omega)).trans (sz_16_0 j)) | exact (fun j => my_up_ne fh7 (by omega)) | assumption | omega) (by omega)
  refine w_iload_n gz_23_0 rfl ?_
  refine w_iload_n gz_23_1 rfl ?_
  refine w_inS (k := 0) (as := [(0, x2), (0, x1)]) (r := []) (ls0 := [(0, x1), (0, x2)]) gz_23_2 gm_17 rfl rfl rfl rfl rfl rfl ?_
  refine w_iload_n gz_17_0 rfl ?_
  refine w_bipush gz_17_1 (by decide) ?_
  refine w_imul gz_17_3 ⟨by omega, by omega⟩ ?_
  refine w_iload_n gz_17_4 rfl ?_
  refine w_iadd gz_17_5 ⟨by omega, by omega⟩ ?_
  refine w_iconst gz_17_6 (by decide) ?_
  refine w_imul gz_17_7 ⟨by omega, by omega⟩ ?_
  refine w_iret gz_17_8 gm_17 ?_
  show wp l rho (d + 1) 23 5 [(2, x0), (0, x1), (0, x2), (9, 0), (9, 0)] [(0, (((x1 * 20) + x2) * 4))] h Q
  refine w_istore_n (ls' := [(2, x0), (0, x1), (0, x2), (0, (((x1 * 20) + x2) * 4)), (9, 0)]) gz_23_5 gm_23 rfl rfl rfl ?_
  refine w_aload_n gz_23_6 rfl ?_
  refine w_getX (v := (x0 + 1)) gz_23_7 t0 rd_6 rfl (by decide) rfl ?_
  refine w_iload_n gz_23_10 rfl ?_
  refine w_iconst gz_23_11 (by decide) ?_
  refine w_iast gz_23_12 (ix_6_1 t0) rd_30 (by omega) (by omega) (by omega) (by omega) (fun h9 fh9 => ?_)
  have gh9 : my_fr [(30, -1), (31, -1)] h h9 := my_fr.up my_fr.rf (ix_6_1 t0) fh9 rfl
  have gxh9 : my_fx x0 2 h h9 := my_fx.up my_fx.rf fh9 (by omega)
  refine w_iconst gz_23_13 (by decide) ?_
  refine w_istore (ls' := [(2, x0), (0, x1), (0, x2), (0, (((x1 * 20) + x2) * 4)), (0, 1)]) gz_23_14 gm_23 rfl rfl rfl ?_
  exact J16_0 4 ((((x1 * 20) + x2) * 4)) (1) h9 (gh9) (gxh9) (by omega) (by omega) (by omega) (by omega) (by omega) (by first | exact DrQ_0 fh9 (by omega) | exact DrQ_s (by omega) dr_16_0 fh9 (by omega) | assumption | omega) (by first | exact (fun j => (my_up_ne fh9 (by omega)).trans (sz_16_0 j)) | exact (fun j => my_up_ne fh9 (by omega)) | assumption | omega) (by omega)
theorem c_Desk_rowComes6 {l : Launch} {rho : Nat → Int32} {d : Nat} {h : my_H} {Q : my_H → my_V → Prop} {x1 : Int} (t1 : my_is 4 x1) (k0 : ∀ (h' : my_H), my_fr [(30, -1), (31, -1), (41, -1)] h h' → RcN h h' x1 → (∀ k j : Int, 0 ≤ k → (k < 94 ∨ 120 ≤ k ∧ k < 151) → h' k j = h k j) → Q h' (0, 0)) (k1 : ∀ (h' : my_H), my_fr [(30, -1), (31, -1), (41, -1)] h h' → RcY h h' x1 → (∀ k j : Int, 0 ≤ k → (k < 94 ∨ 120 ≤ k ∧ k < 151) → h' k j = h k j) → Q h' (0, 1)) : wp l rho (d + 2) 106 0 [(2, 94), (2, x1), (9, 0), (9, 0)] [] h Q := by
  have J2_0 : ∀ (n : Nat) (p2_0 : Int) (h2_0 : my_H), my_fr [(30, -1), (31, -1), (41, -1)] h h2_0 → 0 ≤ p2_0 → p2_0 ≤ 4 → FrI h h2_0 x1 p2_0 → (∀ j : Int, h2_0 96 j = h 96 j) → (∀ j : Int, h2_0 97 j = h 97 j) → (∀ k j : Int, 0 ≤ k → (k < 94 ∨ 120 ≤ k ∧ k < 151) → h2_0 k j = h k j) → 5 - p2_0 ≤ (n : Int) → wp l rho (d + 2) 106 2 [(2, 94), (2, x1), (0, p2_0), (9, 0)] [] h2_0 Q := by
    intro n
    induction n with
    | zero => intro p2_0 h2_0 gh_2_0 q0_2_0 q1_2_0 fr_2_0 a96_2_0 a97_2_0 bf_2_0 hm_2_0; exfalso; omega
    | succ n ih_2_0 =>
      intro p2_0 h2_0 gh_2_0 q0_2_0 q1_2_0 fr_2_0 a96_2_0 a97_2_0 bf_2_0 hm_2_0
      refine w_iload_n gz_106_2 rfl ?_
      refine w_iconst gz_106_3 (by decide) ?_
      refine w_icge (t := 45) gz_106_4 rfl (fun u1 => ?_) (fun u1 => ?_)
      ·
        have e2 : h2_0 x1 2 = h x1 2 := my_fr.at gh_2_0 t1 rfl
        have frx : FrI h h2_0 x1 4 := by have q := fr_2_0; rw [show p2_0 = 4 by omega] at q; exact q
        refine w_aload_n gz_106_45 rfl ?_
        refine w_getX (v := 95) gz_106_46 is_94 rd_2 rfl (by decide) rfl ?_
        refine w_getX (v := 97) gz_106_49 is_95 rd_6 rfl (by decide) rfl ?_
        refine w_aload_n gz_106_52 rfl ?_
        refine v_getI (j := 2) gz_106_53 rfl t1 rd_4 rfl (fun v4 ev4 pv4 qv4 => ?_)
        refine w_iald gz_106_56 is_97 rd_31 (by omega) (by omega) (fun v5 ev5 pv5 qv5 => ?_)
        have s6 : h2_0 97 (h x1 2) = v5 := by rw [show h x1 2 = v4 by omega]; omega
        refine w_bipush gz_106_57 (by decide) ?_
        refine w_icge (t := 82) gz_106_59 rfl (fun u6 => ?_) (fun u6 => ?_)
        ·
          refine w_iconst gz_106_82 (by decide) ?_
          have bfR : ∀ k j : Int, 0 ≤ k → (k < 94 ∨ 120 ≤ k ∧ k < 151) → h2_0 k j = h k j := fun k j k0 k1 => (bf_2_0 k j k0 k1)
          exact w_bret gz_106_83 gm_106 (by omega) (by omega) (k0 h2_0 (gh_2_0) (by first | exact bfR | exact RcN_mk frx a96_2_0 a97_2_0 (Or.inl (by omega)) | exact RcN_mk frx a96_2_0 a97_2_0 (Or.inr (by omega)) | exact RcY_mk frx a96_2_0 a97_2_0 (by omega) (by omega) fad (by omega) fsz (by omega) (by omega) | assumption | omega) (by first | exact bfR | exact RcN_mk frx a96_2_0 a97_2_0 (Or.inl (by omega)) | exact RcN_mk frx a96_2_0 a97_2_0 (Or.inr (by omega)) | exact RcY_mk frx a96_2_0 a97_2_0 (by omega) (by omega) fad (by omega) fsz (by omega) (by omega) | assumption | omega))
        ·
          refine w_aload_n gz_106_62 rfl ?_
          refine w_getX (v := 95) gz_106_63 is_94 rd_2 rfl (by decide) rfl ?_
          refine w_aload_n gz_106_66 rfl ?_
          refine v_getI (j := 2) gz_106_67 rfl t1 rd_4 rfl (fun v8 ev8 pv8 qv8 => ?_)
          have zv8 := ev8.trans ev4.symm
          refine w_aload_n gz_106_70 rfl ?_
          refine w_getX (v := 110) gz_106_71 is_94 rd_2 rfl (by decide) rfl ?_
          refine w_iconst gz_106_74 (by decide) ?_
          refine w_iald gz_106_75 is_110 rd_41 (by omega) (by omega) (fun v10 ev10 pv10 qv10 => ?_)
          refine w_inv (k := 0) (as := [(0, v10), (0, v8)]) (r := []) (x := 95) (ls0 := [(2, 95), (0, v8), (0, v10)]) gz_106_76 gm_15 rfl is_95 rd_6 rfl rfl rfl rfl rfl ?_
          refine w_iload_n gz_15_0 rfl ?_
          refine w_iflt (t := 31) gz_15_1 rfl (fun u11 => by exfalso; omega) (fun u11 => ?_)
          refine w_iload_n gz_15_4 rfl ?_
          refine w_bipush gz_15_5 (by decide) ?_
          refine w_icge (t := 31) gz_15_7 rfl (fun u12 => by exfalso; omega) (fun u12 => ?_)
          refine w_aload_n gz_15_10 rfl ?_
          refine w_getX (v := 96) gz_15_11 is_95 rd_6 rfl (by decide) rfl ?_
          refine w_iload_n gz_15_14 rfl ?_
          refine w_bipush gz_15_15 (by decide) ?_
          refine w_imul gz_15_17 ⟨by omega, by omega⟩ ?_
          refine w_iload_n gz_15_18 rfl ?_
          refine w_iadd gz_15_19 ⟨by omega, by omega⟩ ?_
          refine w_iconst gz_15_20 (by decide) ?_
          refine w_imul gz_15_21 ⟨by omega, by omega⟩ ?_
          refine w_iald gz_15_22 is_96 rd_30 (by omega) (by omega) (fun v14 ev14 pv14 qv14 => ?_)
          have hhas : h2_0 96 (80 * v8 + 4 * v10) = v14 := by rw [show (80 * v8 + 4 * v10 : Int) = (((v8 * 20) + v10) * 4) by omega]; omega
          refine w_iconst gz_15_23 (by decide) ?_
          refine w_iceq (t := 31) gz_15_24 rfl (fun u15 => ?_) (fun u15 => ?_)
          ·
            refine w_iconst gz_15_31 (by decide) ?_
            refine w_bret gz_15_32 gm_15 (by omega) (by omega) ?_
            show wp l rho (d + 2) 106 79 [(2, 94), (2, x1), (0, p2_0), (9, 0)] [(0, 0)] h2_0 Q
            have hc : h2_0 96 (80 * h x1 2 + 4 * h2_0 110 0) = _ := (congrArg (h2_0 96) (by omega)).trans hhas
            refine w_ifeq (t := 84) gz_106_79 rfl (fun u16 => ?_) (fun u16 => by exfalso; omega)
            refine w_aload_n gz_106_84 rfl ?_
            refine w_getX (v := 95) gz_106_85 is_94 rd_2 rfl (by decide) rfl ?_
            refine w_aload_n gz_106_88 rfl ?_
            refine v_getI (j := 2) gz_106_89 rfl t1 rd_4 rfl (fun v18 ev18 pv18 qv18 => ?_)
            have zv18 := ev18.trans ev8.symm
            refine w_aload_n gz_106_92 rfl ?_
            refine w_getX (v := 110) gz_106_93 is_94 rd_2 rfl (by decide) rfl ?_
            refine w_inv (k := 0) (as := [(2, 110), (0, v18)]) (r := []) (x := 95) (ls0 := [(2, 95), (0, v18), (2, 110)]) gz_106_96 gm_16 rfl is_95 rd_6 rfl rfl rfl rfl rfl ?_
            refine w_aload_n gz_16_0 rfl ?_
            refine w_iconst gz_16_1 (by decide) ?_
            refine w_aload_n gz_16_2 rfl ?_
            refine w_getX (v := 96) gz_16_3 is_95 rd_6 rfl (by decide) rfl ?_
            refine w_iload_n gz_16_6 rfl ?_
            refine w_aload_n gz_16_7 rfl ?_
            refine w_iconst gz_16_8 (by decide) ?_
            refine w_iald gz_16_9 is_110 rd_41 (by omega) (by omega) (fun v21 ev21 pv21 qv21 => ?_)
            have zv21 := ev21.trans ev10.symm
            have hi22 : 0 ≤ v21 := by first | omega | (have q := hrow 0 (by decide) (by decide); omega) | omega
            have hi23 : v21 ≤ 19 := by first | omega | (have q := hrow 0 (by decide) (by decide); omega) | omega
            refine w_inS (k := 0) (as := [(0, v21), (0, v18)]) (r := [(2, 96), (0, 0), (2, 110)]) (ls0 := [(0, v18), (0, v21)]) gz_16_10 gm_17 rfl rfl rfl rfl rfl rfl ?_
            refine w_iload_n gz_17_0 rfl ?_
            refine w_bipush gz_17_1 (by decide) ?_
            refine w_imul gz_17_3 ⟨by omega, by omega⟩ ?_
            refine w_iload_n gz_17_4 rfl ?_
            refine w_iadd gz_17_5 ⟨by omega, by omega⟩ ?_
            refine w_iconst gz_17_6 (by decide) ?_
            refine w_imul gz_17_7 ⟨by omega, by omega⟩ ?_
            refine w_iret gz_17_8 gm_17 ?_
            show wp l rho (d + 1) 16 13 [(2, 95), (0, v18), (2, 110)] [(0, (((v18 * 20) + v21) * 4)), (2, 96), (0, 0), (2, 110)] h2_0 _
            refine w_iconst gz_16_13 (by decide) ?_
            refine w_cpU gz_16_14 is_110 rd_41 is_96 rd_30 (by omega) (by omega) (by omega) (by omega) (by omega) rfl (by decide) (by decide) (fun h24 fh24 => ?_)
            have gh24 : my_fr [(30, -1), (31, -1), (41, -1)] h h24 := my_fr.cp gh_2_0 is_96 fh24 rfl
            have fad := fh24
            refine w_aload_n gz_16_17 rfl ?_
            refine w_getX (v := 97) gz_16_18 is_95 rd_6 rfl (by decide) rfl ?_
            refine w_iload_n gz_16_21 rfl ?_
            refine w_dup2 gz_16_22 rfl rfl ?_
            refine w_iald gz_16_23 is_97 rd_31 (by omega) (by omega) (fun v26 ev26 pv26 qv26 => ?_)
            have wv26 : v18 = v4 := by omega
            rw [wv26] at ev26
            have zv26 := ev26.trans ((my_cp_role fh24 is_97 is_96 rfl).trans ev5.symm)
            refine w_iconst gz_16_24 (by decide) ?_
            refine w_iaddB gz_16_25 (fun _ _ _ _ => ⟨by omega, by omega⟩) ?_
            refine w_iastA gz_16_26 is_97 rd_31 (by omega) (by omega) (fun h27 fh27 => ?_)
            have gh27 : my_fr [(30, -1), (31, -1), (41, -1)] h h27 := my_fr.up gh24 is_97 fh27 rfl
            have fsz := fh27
            refine w_vret gz_16_27 gm_16 ?_
            show wp l rho (d + 2) 106 99 [(2, 94), (2, x1), (0, p2_0), (9, 0)] [] h27 Q
            refine w_iconst gz_106_99 (by decide) ?_
            have bfR : ∀ k j : Int, 0 ≤ k → (k < 94 ∨ 120 ≤ k ∧ k < 151) → h27 k j = h k j := fun k j k0 k1 => (((my_up_ne fh27 (by omega)).trans (my_cp_ne fh24 (by omega))).trans (bf_2_0 k j k0 k1))
            exact w_bret gz_106_100 gm_106 (by omega) (by omega) (k1 h27 (gh27) (by first | exact bfR | exact RcN_mk frx a96_2_0 a97_2_0 (Or.inl (by omega)) | exact RcN_mk frx a96_2_0 a97_2_0 (Or.inr (by omega)) | exact RcY_mk frx a96_2_0 a97_2_0 (by omega) (by omega) fad (by omega) fsz (by omega) (by omega) | assumption | omega) (by first | exact bfR | exact RcN_mk frx a96_2_0 a97_2_0 (Or.inl (by omega)) | exact RcN_mk frx a96_2_0 a97_2_0 (Or.inr (by omega)) | exact RcY_mk frx a96_2_0 a97_2_0 (by omega) (by omega) fad (by omega) fsz (by omega) (by omega) | assumption | omega))
          ·
            refine w_iconst gz_15_27 (by decide) ?_
            refine w_goto (t := 32) gz_15_28 rfl ?_
            refine w_bret gz_15_32 gm_15 (by omega) (by omega) ?_
            show wp l rho (d + 2) 106 79 [(2, 94), (2, x1), (0, p2_0), (9, 0)] [(0, 1)] h2_0 Q
            have hc : h2_0 96 (80 * h x1 2 + 4 * h2_0 110 0) = _ := (congrArg (h2_0 96) (by omega)).trans hhas
            refine w_ifeq (t := 84) gz_106_79 rfl (fun u28 => by exfalso; omega) (fun u28 => ?_)
            refine w_iconst gz_106_82 (by decide) ?_
            have bfR : ∀ k j : Int, 0 ≤ k → (k < 94 ∨ 120 ≤ k ∧ k < 151) → h2_0 k j = h k j := fun k j k0 k1 => (bf_2_0 k j k0 k1)
            exact w_bret gz_106_83 gm_106 (by omega) (by omega) (k0 h2_0 (gh_2_0) (by first | exact bfR | exact RcN_mk frx a96_2_0 a97_2_0 (Or.inl (by omega)) | exact RcN_mk frx a96_2_0 a97_2_0 (Or.inr (by omega)) | exact RcY_mk frx a96_2_0 a97_2_0 (by omega) (by omega) fad (by omega) fsz (by omega) (by omega) | assumption | omega) (by first | exact bfR | exact RcN_mk frx a96_2_0 a97_2_0 (Or.inl (by omega)) | exact RcN_mk frx a96_2_0 a97_2_0 (Or.inr (by omega)) | exact RcY_mk frx a96_2_0 a97_2_0 (by omega) (by omega) fad (by omega) fsz (by omega) (by omega) | assumption | omega))
      ·
        refine w_aload_n gz_106_7 rfl ?_
        refine w_iload_n gz_106_8 rfl ?_
        refine w_inv (k := 1) (as := [(0, p2_0)]) (r := []) (x := x1) (ls0 := [(2, x1), (0, p2_0), (9, 0)]) gz_106_9 gm_107 rfl t1 rd_4 rfl rfl rfl rfl rfl (c_Lens_columnShowing5 (d := d) (x0 := x1) (x1 := p2_0) t1 (by omega) (by omega) (fun xp29 => ?_) (fun v30 w31 w32 w33 w34 xp35 xp36 xp37 => ?_))
        ·
          show wp l rho (d + 2) 106 12 [(2, 94), (2, x1), (0, p2_0), (9, 0)] [(0, (-1))] h2_0 Q
          have cs := xp29
          refine w_istore_n (ls' := [(2, 94), (2, x1), (0, p2_0), (0, (-1))]) gz_106_12 gm_106 rfl rfl rfl ?_
          refine w_aload_n gz_106_13 rfl ?_
          refine w_getX (v := 110) gz_106_14 is_94 rd_2 rfl (by decide) rfl ?_
          refine w_iload_n gz_106_17 rfl ?_
          refine w_iload_n gz_106_18 rfl ?_
          refine w_iconst gz_106_19 (by decide) ?_
          refine w_iceq (t := 32) gz_106_20 rfl (fun u39 => ?_) (fun u39 => by exfalso; omega)
          refine w_aload_n gz_106_32 rfl ?_
          refine w_getX (v := (x1 + 7)) gz_106_33 t1 rd_4 rfl (by decide) rfl ?_
          refine w_iload_n gz_106_36 rfl ?_
          refine w_iald gz_106_37 (ix_4_7 t1) rd_38 (by omega) (by omega) (fun v41 ev41 pv41 qv41 => ?_)
          have fp : FrP h2_0 x1 p2_0 v41 := by first | exact Or.inr ⟨cs, by omega⟩ | exact Or.inl ⟨(-1), by omega, cs1, cs, cs2, by omega⟩
          have fq := FrP_fr gh_2_0 t1 fp
          refine w_iast gz_106_38 is_110 rd_41 (by omega) (by omega) (by omega) (by omega) (fun h42 fh42 => ?_)
          have gh42 : my_fr [(30, -1), (31, -1), (41, -1)] h h42 := my_fr.up gh_2_0 is_110 fh42 rfl
          refine w_iinc (ls' := [(2, 94), (2, x1), (0, (p2_0 + 1)), (0, (-1))]) gz_106_39 rfl gm_106 rfl rfl rfl ⟨by omega, by omega⟩ ?_
          refine w_goto (t := 2) gz_106_42 rfl ?_
          have b96 : ∀ j : Int, h42 96 j = h2_0 96 j := fun j => ((my_up_role fh42 is_96 is_110 rfl).trans (rfl : h2_0 96 j = h2_0 96 j))
          have b97 : ∀ j : Int, h42 97 j = h2_0 97 j := fun j => ((my_up_role fh42 is_97 is_110 rfl).trans (rfl : h2_0 97 j = h2_0 97 j))
          have bf9 : ∀ k j : Int, 0 ≤ k → (k < 94 ∨ 120 ≤ k ∧ k < 151) → h42 k j = h k j := fun k j k0 k1 => ((my_up_ne fh42 (by omega)).trans (bf_2_0 k j k0 k1))
          refine w_weak (ls' := [(2, 94), (2, x1), (0, (p2_0 + 1)), (9, 0)]) (wk_e (wk_e (wk_e (wk_9 wk_n)))) ?_
          exact ih_2_0 ((p2_0 + 1)) h42 (gh42) (by omega) (by omega) (by first | exact FrI_0 | exact FrI_s fr_2_0 fq fh42 | assumption | omega) (by first | exact (fun _ => rfl) | exact (fun j => (b96 j).trans (a96_2_0 j)) | assumption | omega) (by first | exact (fun _ => rfl) | exact (fun j => (b97 j).trans (a97_2_0 j)) | assumption | omega) (bf9) (by omega)
        ·
          show wp l rho (d + 2) 106 12 [(2, 94), (2, x1), (0, p2_0), (9, 0)] [(0, v30)] h2_0 Q
          have cs := xp35
          have cs1 := xp36
          have cs2 := xp37
          refine w_istore_n (ls' := [(2, 94), (2, x1), (0, p2_0), (0, v30)]) gz_106_12 gm_106 rfl rfl rfl ?_
          refine w_aload_n gz_106_13 rfl ?_
          refine w_getX (v := 110) gz_106_14 is_94 rd_2 rfl (by decide) rfl ?_
          refine w_iload_n gz_106_17 rfl ?_
          refine w_iload_n gz_106_18 rfl ?_
          refine w_iconst gz_106_19 (by decide) ?_
          refine w_iceq (t := 32) gz_106_20 rfl (fun u44 => by exfalso; omega) (fun u44 => ?_)
          refine w_aload_n gz_106_23 rfl ?_
          refine w_getX (v := 93) gz_106_24 is_94 rd_2 rfl (by decide) rfl ?_
          refine w_iload_n gz_106_27 rfl ?_
          refine w_iald gz_106_28 is_93 rd_23 (by omega) (by omega) (fun v46 ev46 pv46 qv46 => ?_)
          refine w_goto (t := 38) gz_106_29 rfl ?_
          have fp : FrP h2_0 x1 p2_0 v46 := by first | exact Or.inr ⟨cs, by omega⟩ | exact Or.inl ⟨v30, by omega, cs1, cs, cs2, by omega⟩
          have fq := FrP_fr gh_2_0 t1 fp
          refine w_iast gz_106_38 is_110 rd_41 (by omega) (by omega) (by omega) (by omega) (fun h47 fh47 => ?_)
          have gh47 : my_fr [(30, -1), (31, -1), (41, -1)] h h47 := my_fr.up gh_2_0 is_110 fh47 rfl
          refine w_iinc (ls' := [(2, 94), (2, x1), (0, (p2_0 + 1)), (0, v30)]) gz_106_39 rfl gm_106 rfl rfl rfl ⟨by omega, by omega⟩ ?_
          refine w_goto (t := 2) gz_106_42 rfl ?_
          have b96 : ∀ j : Int, h47 96 j = h2_0 96 j := fun j => ((my_up_role fh47 is_96 is_110 rfl).trans (rfl : h2_0 96 j = h2_0 96 j))
          have b97 : ∀ j : Int, h47 97 j = h2_0 97 j := fun j => ((my_up_role fh47 is_97 is_110 rfl).trans (rfl : h2_0 97 j = h2_0 97 j))
          have bf9 : ∀ k j : Int, 0 ≤ k → (k < 94 ∨ 120 ≤ k ∧ k < 151) → h47 k j = h k j := fun k j k0 k1 => ((my_up_ne fh47 (by omega)).trans (bf_2_0 k j k0 k1))
          refine w_weak (ls' := [(2, 94), (2, x1), (0, (p2_0 + 1)), (9, 0)]) (wk_e (wk_e (wk_e (wk_9 wk_n)))) ?_
          exact ih_2_0 ((p2_0 + 1)) h47 (gh47) (by omega) (by omega) (by first | exact FrI_0 | exact FrI_s fr_2_0 fq fh47 | assumption | omega) (by first | exact (fun _ => rfl) | exact (fun j => (b96 j).trans (a96_2_0 j)) | assumption | omega) (by first | exact (fun _ => rfl) | exact (fun j => (b97 j).trans (a97_2_0 j)) | assumption | omega) (bf9) (by omega)
  refine w_iconst gz_106_0 (by decide) ?_
  refine w_istore_n (ls' := [(2, 94), (2, x1), (0, 0), (9, 0)]) gz_106_1 gm_106 rfl rfl rfl ?_
  have b96 : ∀ j : Int, h 96 j = h 96 j := fun _ => rfl
  have b97 : ∀ j : Int, h 97 j = h 97 j := fun _ => rfl
  have bf9 : ∀ k j : Int, 0 ≤ k → (k < 94 ∨ 120 ≤ k ∧ k < 151) → h k j = h k j := fun k j k0 k1 => rfl
  exact J2_0 5 (0) h (my_fr.rf) (by omega) (by omega) (by first | exact FrI_0 | exact FrI_s fr_2_0 fq no_such_saying | assumption | omega) (by first | exact (fun _ => rfl) | exact (fun j => (b96 j).trans (a96_2_0 j)) | assumption | omega) (by first | exact (fun _ => rfl) | exact (fun j => (b97 j).trans (a97_2_0 j)) | assumption | omega) (bf9) (by omega)
theorem c_Model_findWanted5 {l : Launch} {rho : Nat → Int32} {d : Nat} {h : my_H} {Q : my_H → my_V → Prop} {x1 x2 x3 x4 : Int} (a1 : (-1) ≤ x1) (b1 : x1 ≤ 2) (hv : x1 = 0 → 0 ≤ x4) (h01 : x1 = 0 ∨ x1 = 1 → 0 ≤ x2 ∧ x2 < h 151 37) (h0 : x1 = 0 → 0 ≤ x3 ∧ x3 < h 151 27) (hm : x1 ≠ 0 → x1 ≠ 1 → x1 ≠ 2 → x2 < 0) (k0 : ∀ (h' : my_H), my_fr [(10, 46), (88, -1)] h h' → ((zqL (zqN (wv (h 151 27) h') (h 151 27)) (h' 151 46).toNat).map Prod.snd).Perm (EdLm h x1 x2 x3 x4 (h 188)) → zqS zqle (fun i => (zqN (wv (h 151 27) h') (h 151 27) i).2) (h' 151 46).toNat → Q h' (9, 0)) : wp l rho (d + 1) 210 0 [(2, 151), (0, x1), (0, x2), (0, x3), (0, x4), (9, 0), (9, 0)] [] h Q := by
  refine v_know (x := 151) (j := 27) (b := 27) rfl is_151 rd_10 rfl (fun k151_27 ek151_27 pk151_27 qk151_27 => ?_)
  refine v_know (x := 151) (j := 37) (b := 37) rfl is_151 rd_10 rfl (fun k151_37 ek151_37 pk151_37 qk151_37 => ?_)
  have J169_0 : ∀ (n : Nat) (p169_0 p169_1 p169_2 p169_3 : Int) (h169_0 : my_H), my_fr [(10, 46), (88, -1)] h h169_0 → (-1) ≤ p169_0 → p169_0 ≤ 2 → 0 ≤ p169_1 → p169_1 ≤ 11 → 0 ≤ p169_2 → p169_2 ≤ 10 → 0 ≤ p169_3 → p169_3 ≤ 11 → p169_0 ≤ (p169_3 + 1) → p169_0 ≤ x1 → p169_1 ≤ (p169_0 + 11) → p169_1 ≤ p169_3 → p169_1 ≤ (x1 + 11) → p169_2 ≤ k151_37 → p169_3 ≤ (p169_0 + 11) → p169_3 ≤ (x1 + 11) → k151_37 ≤ p169_2 → x1 ≤ p169_0 → x1 ≤ (p169_3 + 1) → h169_0 151 27 = k151_27 → h169_0 151 37 = p169_2 → h169_0 151 46 = p169_3 → SwQ (EdLm h x1 x2 x3 x4 (h 188)) h169_0 (h 151 27) (h169_0 151 46) p169_1 (p169_1 + 1) → 12 - p169_1 ≤ (n : Int) → wp l rho (d + 1) 210 169 [(2, 151), (0, p169_0), (0, x2), (0, x3), (0, x4), (0, p169_1), (9, 0)] [] h169_0 Q := by
    intro n
    induction n with
    | zero => intro p169_0 p169_1 p169_2 p169_3 h169_0 gh_169_0 q0_169_0 q1_169_0 q2_169_0 q3_169_0 q4_169_0 q5_169_0 q6_169_0 q7_169_0 q8_169_0 q9_169_0 q10_169_0 q11_169_0 q12_169_0 q13_169_0 q14_169_0 q15_169_0 q16_169_0 q17_169_0 q18_169_0 c151_27_169_0 c151_37_169_0 c151_46_169_0 sq_169_0 hm_169_0; exfalso; omega
    | succ n ih_169_0 =>
      intro p169_0 p169_1 p169_2 p169_3 h169_0 gh_169_0 q0_169_0 q1_169_0 q2_169_0 q3_169_0 q4_169_0 q5_169_0 q6_169_0 q7_169_0 q8_169_0 q9_169_0 q10_169_0 q11_169_0 q12_169_0 q13_169_0 q14_169_0 q15_169_0 q16_169_0 q17_169_0 q18_169_0 c151_27_169_0 c151_37_169_0 c151_46_169_0 sq_169_0 hm_169_0
      have J184_0 : ∀ (n : Nat) (p184_0 : Int) (h184_0 : my_H), my_fr [(10, 46), (88, -1)] h h184_0 → p169_1 ≤ 10 → 1 ≤ p184_0 → p184_0 ≤ 11 → 1 ≤ p169_3 → p184_0 ≤ (p169_0 + 11) → p184_0 ≤ p169_3 → p184_0 ≤ (x1 + 11) → p169_0 ≤ x1 → p169_1 ≤ (p184_0 - 1) → p169_1 ≤ (p169_0 + 10) → p169_1 ≤ (p169_3 - 1) → p169_1 ≤ (x1 + 10) → p169_2 ≤ k151_37 → p169_3 ≤ (p169_0 + 11) → p169_3 ≤ (x1 + 11) → k151_37 ≤ p169_2 → x1 ≤ p169_0 → h184_0 151 27 = k151_27 → h184_0 151 37 = p169_2 → h184_0 151 46 = p169_3 → SwQ (EdLm h x1 x2 x3 x4 (h 188)) h184_0 (h 151 27) (h184_0 151 46) p169_1 p184_0 → 12 - p184_0 ≤ (n : Int) → wp l rho (d + 1) 210 184 [(2, 151), (0, p169_0), (0, x2), (0, x3), (0, x4), (0, p169_1), (0, p184_0)] [] h184_0 Q := by
        intro n
        induction n with
        | zero => intro p184_0 h184_0 gh_184_0 q0_184_0 q1_184_0 q2_184_0 q3_184_0 q4_184_0 q5_184_0 q6_184_0 q7_184_0 q8_184_0 q9_184_0 q10_184_0 q11_184_0 q12_184_0 q13_184_0 q14_184_0 q15_184_0 q16_184_0 c151_27_184_0 c151_37_184_0 c151_46_184_0 sq_184_0 hm_184_0; exfalso; omega
        | succ n ih_184_0 =>
          intro p184_0 h184_0 gh_184_0 q0_184_0 q1_184_0 q2_184_0 q3_184_0 q4_184_0 q5_184_0 q6_184_0 q7_184_0 q8_184_0 q9_184_0 q10_184_0 q11_184_0 q12_184_0 q13_184_0 q14_184_0 q15_184_0 q16_184_0 c151_27_184_0 c151_37_184_0 c151_46_184_0 sq_184_0 hm_184_0
          refine w_iload gz_210_184 rfl ?_
          refine w_aload_n gz_210_186 rfl ?_
          refine v_getI (j := 46) gz_210_187 rfl is_151 rd_10 rfl (fun v1 ev1 pv1 qv1 => ?_)
          have zv1 := ev1.trans c151_46_184_0
          refine w_icge (t := 218) gz_210_190 rfl (fun u2 => ?_) (fun u2 => ?_)
          ·
            refine w_iinc (ls' := [(2, 151), (0, p169_0), (0, x2), (0, x3), (0, x4), (0, (p169_1 + 1)), (0, p184_0)]) gz_210_218 rfl gm_210 rfl rfl rfl ⟨by omega, by omega⟩ ?_
            refine w_goto (t := 169) gz_210_221 rfl ?_
            have ce3 : h184_0 151 46 = v1 := ev1.symm
            have ce4 : h184_0 151 27 = k151_27 := c151_27_184_0
            have ce5 : h184_0 151 37 = p169_2 := c151_37_184_0
            refine w_weak (ls' := [(2, 151), (0, p169_0), (0, x2), (0, x3), (0, x4), (0, (p169_1 + 1)), (9, 0)]) (wk_e (wk_e (wk_e (wk_e (wk_e (wk_e (wk_9 wk_n))))))) ?_
            exact ih_169_0 (p169_0) ((p169_1 + 1)) (p169_2) (v1) h184_0 (gh_184_0) (by omega) (by omega) (by omega) (by omega) (by omega) (by omega) (by omega) (by omega) (by omega) (by omega) (by omega) (by omega) (by omega) (by omega) (by omega) (by omega) (by omega) (by omega) (by omega) (c151_27_184_0.trans (by omega)) (c151_37_184_0.trans (by omega)) (ev1.symm.trans (by omega)) (by first | exact sq_169_0 | exact SwQ_n (by omega) sq_184_0 le | exact SwQ_y2 sq_184_0 le sw (by omega) (by omega) (by omega) (by omega) (by omega) (by omega) | exact SwQ_a no_such_saying (by decide) wd_119_0 wp_119_0 (by omega) (by omega) (by omega) (by omega) (by omega) (by omega) | exact SwQ_p2 sq_184_0 (by omega) (by omega) (by omega) (by omega) (by omega) | exact SwQ_0 (List.Perm.of_eq (WdI_e (by omega) (by omega) wd_8_0 (by omega) (by omega) (fun _ => by omega) (fun _ _ => by omega))) | assumption | omega) (by omega)
          ·
            refine w_aload_n gz_210_193 rfl ?_
            refine w_iload gz_210_194 rfl ?_
            refine w_iload gz_210_196 rfl ?_
            have m27 : h184_0 151 27 = h 151 27 := my_fr.at gh_184_0 is_151 rfl
            have m37 : h184_0 151 37 = h 151 37 := my_fr.at gh_184_0 is_151 rfl
            refine w_inv (k := 1) (as := [(0, p169_1), (0, p184_0)]) (r := []) (x := 151) (ls0 := [(2, 151), (0, p184_0), (0, p169_1), (9, 0)]) gz_210_198 gm_211 rfl is_151 rd_10 rfl rfl rfl rfl rfl (c_Model_isLess5 (d := d) (x1 := p184_0) (x2 := p169_1) (by omega) (by omega) (by omega) (by omega) (fun xp6 => ?_) (fun w7 w8 xp9 => ?_))
            ·
              show wp l rho (d + 1) 210 201 [(2, 151), (0, p169_0), (0, x2), (0, x3), (0, x4), (0, p169_1), (0, p184_0)] [(0, 0)] h184_0 Q
              have le := xp6
              rw [m27] at le
              have m27 : h184_0 151 27 = h 151 27 := my_fr.at gh_184_0 is_151 rfl
              refine w_ifeq (t := 212) gz_210_201 rfl (fun u10 => ?_) (fun u10 => by exfalso; omega)
              refine w_iinc (ls' := [(2, 151), (0, p169_0), (0, x2), (0, x3), (0, x4), (0, p169_1), (0, (p184_0 + 1))]) gz_210_212 rfl gm_210 rfl rfl rfl ⟨by omega, by omega⟩ ?_
              refine w_goto (t := 184) gz_210_215 rfl ?_
              have ce11 : h184_0 151 46 = v1 := ev1.symm
              have ce12 : h184_0 151 27 = k151_27 := c151_27_184_0
              have ce13 : h184_0 151 37 = p169_2 := c151_37_184_0
              exact ih_184_0 ((p184_0 + 1)) h184_0 (gh_184_0) (by omega) (by omega) (by omega) (by omega) (by omega) (by omega) (by omega) (by omega) (by omega) (by omega) (by omega) (by omega) (by omega) (by omega) (by omega) (by omega) (by omega) (c151_27_184_0.trans (by omega)) (c151_37_184_0.trans (by omega)) (ev1.symm.trans (by omega)) (by first | exact sq_169_0 | exact SwQ_n (by omega) sq_184_0 le | exact SwQ_y2 sq_184_0 le sw (by omega) (by omega) (by omega) (by omega) (by omega) (by omega) | exact SwQ_a no_such_saying (by decide) wd_119_0 wp_119_0 (by omega) (by omega) (by omega) (by omega) (by omega) (by omega) | exact SwQ_p2 sq_184_0 (by omega) (by omega) (by omega) (by omega) (by omega) | exact SwQ_0 (List.Perm.of_eq (WdI_e (by omega) (by omega) wd_8_0 (by omega) (by omega) (fun _ => by omega) (fun _ _ => by omega))) | assumption | omega) (by omega)
            ·
              show wp l rho (d + 1) 210 201 [(2, 151), (0, p169_0), (0, x2), (0, x3), (0, x4), (0, p169_1), (0, p184_0)] [(0, 1)] h184_0 Q
              have le := xp9
              rw [m27] at le
              have m27 : h184_0 151 27 = h 151 27 := my_fr.at gh_184_0 is_151 rfl
              refine w_ifeq (t := 212) gz_210_201 rfl (fun u14 => by exfalso; omega) (fun u14 => ?_)
              refine w_aload_n gz_210_204 rfl ?_
              refine w_iload gz_210_205 rfl ?_
              refine w_iload gz_210_207 rfl ?_
              have m27 : h184_0 151 27 = h 151 27 := my_fr.at gh_184_0 is_151 rfl
              refine w_inv (k := 2) (as := [(0, p184_0), (0, p169_1)]) (r := []) (x := 151) (ls0 := [(2, 151), (0, p169_1), (0, p184_0), (9, 0), (9, 0)]) gz_210_209 gm_212 rfl is_151 rd_10 rfl rfl rfl rfl rfl (c_Model_exchanges5 (d := d) (x1 := p169_1) (x2 := p184_0) (by omega) (by omega) (by omega) (by omega) (by first | assumption | exact no_such_saying | exact Fp_told (by omega) (by omega) | omega | (subst_vars; omega) | omega) (fun h15 frh15 xp16 => ?_))
              have gh15 : my_fr [(10, 46), (88, -1)] h h15 := my_fr.tr gh_184_0 (frh15.mo rfl)
              show wp l rho (d + 1) 210 212 [(2, 151), (0, p169_0), (0, x2), (0, x3), (0, x4), (0, p169_1), (0, p184_0)] [] h15 Q
              have sw := xp16
              rw [m27] at sw
              refine w_iinc (ls' := [(2, 151), (0, p169_0), (0, x2), (0, x3), (0, x4), (0, p169_1), (0, (p184_0 + 1))]) gz_210_212 rfl gm_210 rfl rfl rfl ⟨by omega, by omega⟩ ?_
              refine w_goto (t := 184) gz_210_215 rfl ?_
              have ce17 : h15 151 46 = v1 := ((my_fr.at frh15 is_151 rfl).trans ev1.symm)
              have ce18 : h15 151 27 = k151_27 := ((my_fr.at frh15 is_151 rfl).trans c151_27_184_0)
              have ce19 : h15 151 37 = p169_2 := ((my_fr.at frh15 is_151 rfl).trans c151_37_184_0)
              exact ih_184_0 ((p184_0 + 1)) h15 (gh15) (by omega) (by omega) (by omega) (by omega) (by omega) (by omega) (by omega) (by omega) (by omega) (by omega) (by omega) (by omega) (by omega) (by omega) (by omega) (by omega) (by omega) (((my_fr.at frh15 is_151 rfl).trans c151_27_184_0).trans (by omega)) (((my_fr.at frh15 is_151 rfl).trans c151_37_184_0).trans (by omega)) (((my_fr.at frh15 is_151 rfl).trans ev1.symm).trans (by omega)) (by first | exact sq_169_0 | exact SwQ_n (by omega) sq_184_0 le | exact SwQ_y2 sq_184_0 le sw (by omega) (by omega) (by omega) (by omega) (by omega) (by omega) | exact SwQ_a no_such_saying (by decide) wd_119_0 wp_119_0 (by omega) (by omega) (by omega) (by omega) (by omega) (by omega) | exact SwQ_p2 sq_184_0 (by omega) (by omega) (by omega) (by omega) (by omega) | exact SwQ_0 (List.Perm.of_eq (WdI_e (by omega) (by omega) wd_8_0 (by omega) (by omega) (fun _ => by omega) (fun _ _ => by omega))) | assumption | omega) (by omega)
      refine w_iload gz_210_169 rfl ?_
      refine w_aload_n gz_210_171 rfl ?_
      refine v_getI (j := 46) gz_210_172 rfl is_151 rd_10 rfl (fun v20 ev20 pv20 qv20 => ?_)
      have zv20 := ev20.trans c151_46_169_0
      refine w_icge (t := 224) gz_210_175 rfl (fun u21 => ?_) (fun u21 => ?_)
      ·
        exact w_vret gz_210_224 gm_210 (k0 h169_0 (gh_169_0) (by first | exact (SwQ_e sq_169_0 (by omega)).1 | exact (SwQ_e sq_169_0 (by omega)).2 | assumption | omega) (by first | exact (SwQ_e sq_169_0 (by omega)).1 | exact (SwQ_e sq_169_0 (by omega)).2 | assumption | omega))
      ·
        refine w_iload gz_210_178 rfl ?_
        refine w_iconst gz_210_180 (by decide) ?_
        refine w_iadd gz_210_181 ⟨by omega, by omega⟩ ?_
        refine w_istore (ls' := [(2, 151), (0, p169_0), (0, x2), (0, x3), (0, x4), (0, p169_1), (0, (p169_1 + 1))]) gz_210_182 gm_210 rfl rfl rfl ?_
        have ce22 : h169_0 151 46 = v20 := ev20.symm
        have ce23 : h169_0 151 27 = k151_27 := c151_27_169_0
        have ce24 : h169_0 151 37 = p169_2 := c151_37_169_0
        exact J184_0 11 ((p169_1 + 1)) h169_0 (gh_169_0) (by omega) (by omega) (by omega) (by omega) (by omega) (by omega) (by omega) (by omega) (by omega) (by omega) (by omega) (by omega) (by omega) (by omega) (by omega) (by omega) (by omega) (c151_27_169_0.trans (by omega)) (c151_37_169_0.trans (by omega)) (ev20.symm.trans (by omega)) (by first | exact sq_169_0 | exact SwQ_n (by omega) sq_184_0 le | exact SwQ_y2 sq_184_0 le sw (by omega) (by omega) (by omega) (by omega) (by omega) (by omega) | exact SwQ_a no_such_saying (by decide) wd_119_0 wp_119_0 (by omega) (by omega) (by omega) (by omega) (by omega) (by omega) | exact SwQ_p2 sq_184_0 (by omega) (by omega) (by omega) (by omega) (by omega) | exact SwQ_0 (List.Perm.of_eq (WdI_e (by omega) (by omega) wd_8_0 (by omega) (by omega) (fun _ => by omega) (fun _ _ => by omega))) | assumption | omega) (by omega)
  have J119_0 : ∀ (n : Nat) (p119_0 p119_1 p119_2 : Int) (h119_0 : my_H), my_fr [(10, 46), (88, -1)] h h119_0 → 0 ≤ p119_0 → p119_0 ≤ 8 → 0 ≤ p119_1 → p119_1 ≤ 10 → 0 ≤ p119_2 → p119_2 ≤ 10 → 2 ≤ x1 → p119_0 ≤ k151_27 → p119_1 ≤ k151_37 → p119_2 ≤ p119_1 → p119_2 ≤ k151_37 → k151_37 ≤ p119_1 → h119_0 151 27 = k151_27 → h119_0 151 37 = p119_1 → h119_0 151 46 = p119_2 → WdI h h119_0 x1 x2 x3 x4 (h 151 27) (h 151 37) → WdP h119_0 (h 188) (h 151 37) p119_0 → h119_0 151 46 = h 151 37 → p119_0 ≤ h 151 27 → 9 - p119_0 ≤ (n : Int) → wp l rho (d + 1) 210 119 [(2, 151), (0, 2), (0, x2), (0, x3), (0, x4), (0, p119_0), (9, 0)] [] h119_0 Q := by
    intro n
    induction n with
    | zero => intro p119_0 p119_1 p119_2 h119_0 gh_119_0 q0_119_0 q1_119_0 q2_119_0 q3_119_0 q4_119_0 q5_119_0 q6_119_0 q7_119_0 q8_119_0 q9_119_0 q10_119_0 q11_119_0 c151_27_119_0 c151_37_119_0 c151_46_119_0 wd_119_0 wp_119_0 wn_119_0 wl_119_0 hm_119_0; exfalso; omega
    | succ n ih_119_0 =>
      intro p119_0 p119_1 p119_2 h119_0 gh_119_0 q0_119_0 q1_119_0 q2_119_0 q3_119_0 q4_119_0 q5_119_0 q6_119_0 q7_119_0 q8_119_0 q9_119_0 q10_119_0 q11_119_0 c151_27_119_0 c151_37_119_0 c151_46_119_0 wd_119_0 wp_119_0 wn_119_0 wl_119_0 hm_119_0
      refine w_iload gz_210_119 rfl ?_
      refine w_aload_n gz_210_121 rfl ?_
      have m27 : h119_0 151 27 = h 151 27 := my_fr.at gh_119_0 is_151 rfl
      refine v_getI (j := 27) gz_210_122 rfl is_151 rd_10 rfl (fun v25 ev25 pv25 qv25 => ?_)
      have zv25 := ev25.trans c151_27_119_0
      have m27 : h119_0 151 27 = h 151 27 := my_fr.at gh_119_0 is_151 rfl
      refine w_icge (t := 156) gz_210_125 rfl (fun u26 => ?_) (fun u26 => ?_)
      ·
        refine w_aload_n gz_210_156 rfl ?_
        refine w_dup gz_210_157 rfl ?_
        refine v_getI (j := 46) gz_210_158 rfl is_151 rd_10 rfl (fun v27 ev27 pv27 qv27 => ?_)
        have zv27 := ev27.trans c151_46_119_0
        refine w_iconst gz_210_161 (by decide) ?_
        refine w_iadd gz_210_162 ⟨by omega, by omega⟩ ?_
        refine v_putI (j := 46) gz_210_163 rfl is_151 rd_10 rfl (by omega) (by omega) rfl (fun h28 fh28 => ?_)
        have gh28 : my_fr [(10, 46), (88, -1)] h h28 := my_fr.up gh_119_0 is_151 fh28 rfl
        refine w_iconst gz_210_166 (by decide) ?_
        refine w_istore (ls' := [(2, 151), (0, 2), (0, x2), (0, x3), (0, x4), (0, 0), (9, 0)]) gz_210_167 gm_210 rfl rfl rfl ?_
        have ce29 : h28 151 46 = (v27 + 1) := (my_up_self fh28)
        have ce30 : h28 151 27 = v25 := ((my_up_fld fh28 (by decide)).trans ev25.symm)
        have ce31 : h28 151 37 = p119_1 := ((my_up_fld fh28 (by decide)).trans c151_37_119_0)
        exact J169_0 12 (2) (0) (p119_1) ((v27 + 1)) h28 (gh28) (by omega) (by omega) (by omega) (by omega) (by omega) (by omega) (by omega) (by omega) (by omega) (by omega) (by omega) (by omega) (by omega) (by omega) (by omega) (by omega) (by omega) (by omega) (by omega) (((my_up_fld fh28 (by decide)).trans ev25.symm).trans (by omega)) (((my_up_fld fh28 (by decide)).trans c151_37_119_0).trans (by omega)) ((my_up_self fh28).trans (by omega)) (by first | exact sq_169_0 | exact SwQ_n (by omega) sq_184_0 le | exact SwQ_y2 sq_184_0 le sw (by omega) (by omega) (by omega) (by omega) (by omega) (by omega) | exact SwQ_a fh28 (by decide) wd_119_0 wp_119_0 (by omega) (by omega) (by omega) (by omega) (by omega) (by omega) | exact SwQ_p2 sq_184_0 (by omega) (by omega) (by omega) (by omega) (by omega) | exact SwQ_0 (List.Perm.of_eq (WdI_e (by omega) (by omega) wd_8_0 (by omega) (by omega) (fun _ => by omega) (fun _ _ => by omega))) | assumption | omega) (by omega)
      ·
        refine w_aload_n gz_210_128 rfl ?_
        refine w_getX (v := 189) gz_210_129 is_151 rd_10 rfl (by decide) rfl ?_
        refine w_bipush gz_210_132 (by decide) ?_
        refine w_aload_n gz_210_134 rfl ?_
        refine v_getI (j := 46) gz_210_135 rfl is_151 rd_10 rfl (fun v33 ev33 pv33 qv33 => ?_)
        have zv33 := ev33.trans c151_46_119_0
        refine w_imul gz_210_138 ⟨by omega, by omega⟩ ?_
        refine w_iload gz_210_139 rfl ?_
        refine w_iadd gz_210_141 ⟨by omega, by omega⟩ ?_
        refine w_aload_n gz_210_142 rfl ?_
        refine w_getX (v := 188) gz_210_143 is_151 rd_10 rfl (by decide) rfl ?_
        refine w_iload gz_210_146 rfl ?_
        refine w_iald gz_210_148 is_188 rd_87 (by omega) (by omega) (fun v35 ev35 pv35 qv35 => ?_)
        have a188 := my_fr.at (j := p119_0) gh_119_0 is_188 rfl
        refine w_iast gz_210_149 is_189 rd_88 (by omega) (by omega) (by omega) (by omega) (fun h36 fh36 => ?_)
        have gh36 : my_fr [(10, 46), (88, -1)] h h36 := my_fr.up gh_119_0 is_189 fh36 rfl
        refine w_iinc (ls' := [(2, 151), (0, 2), (0, x2), (0, x3), (0, x4), (0, (p119_0 + 1)), (9, 0)]) gz_210_150 rfl gm_210 rfl rfl rfl ⟨by omega, by omega⟩ ?_
        refine w_goto (t := 119) gz_210_153 rfl ?_
        have ce37 : h36 151 46 = v33 := ((my_up_role fh36 is_151 is_189 rfl).trans ev33.symm)
        have ce38 : h36 151 27 = v25 := ((my_up_role fh36 is_151 is_189 rfl).trans ev25.symm)
        have ce39 : h36 151 37 = p119_1 := ((my_up_role fh36 is_151 is_189 rfl).trans c151_37_119_0)
        exact ih_119_0 ((p119_0 + 1)) (p119_1) (v33) h36 (gh36) (by omega) (by omega) (by omega) (by omega) (by omega) (by omega) (by omega) (by omega) (by omega) (by omega) (by omega) (by omega) (((my_up_role fh36 is_151 is_189 rfl).trans ev25.symm).trans (by omega)) (((my_up_role fh36 is_151 is_189 rfl).trans c151_37_119_0).trans (by omega)) (((my_up_role fh36 is_151 is_189 rfl).trans ev33.symm).trans (by omega)) (by first | exact WdI_v (l := 0) fh36 wd_31_0 (by omega) (by omega) (by omega) (by omega) | exact WdI_v (l := p119_0) fh36 wd_119_0 (by omega) (by omega) (by omega) (by omega) | exact WdI_t fh36 (by decide) wd_31_0 wp_31_0 (by omega) (by omega) | exact WdI_c wd_8_0 (by omega) | exact WdI_z (by omega) | assumption | omega) (by first | exact WdP_v fh36 wp_31_0 (by omega) (by first | exact WdC_p y182 (by omega) | exact (WdC_v (by omega) (by omega) (by omega)).symm) (by omega) | exact WdP_u wp_119_0 fh36 (by omega) (by omega) | exact WdP_0 | assumption | omega) (by omega) (by omega) (by omega)
  have J8_0 : ∀ (n : Nat) (p8_0 p8_1 p8_2 : Int) (h8_0 : my_H), my_fr [(10, 46), (88, -1)] h h8_0 → (-1) ≤ p8_0 → p8_0 ≤ 2 → 0 ≤ p8_1 → p8_1 ≤ 10 → 0 ≤ p8_2 → p8_2 ≤ 10 → p8_0 ≤ x1 → p8_1 ≤ k151_37 → p8_2 ≤ p8_1 → p8_2 ≤ k151_37 → x1 ≤ p8_0 → h8_0 151 27 = k151_27 → h8_0 151 37 = k151_37 → h8_0 151 46 = p8_2 → WdI h h8_0 x1 x2 x3 x4 (h 151 27) (h8_0 151 46) → ((x1 = 1 ∧ x2 < p8_1 → h8_0 151 46 = p8_1 - 1) ∧ (¬ (x1 = 1 ∧ x2 < p8_1) → h8_0 151 46 = p8_1)) → p8_1 ≤ h 151 37 → 11 - p8_1 ≤ (n : Int) → wp l rho (d + 1) 210 8 [(2, 151), (0, p8_0), (0, x2), (0, x3), (0, x4), (0, p8_1), (9, 0)] [] h8_0 Q := by
    intro n
    induction n with
    | zero => intro p8_0 p8_1 p8_2 h8_0 gh_8_0 q0_8_0 q1_8_0 q2_8_0 q3_8_0 q4_8_0 q5_8_0 q6_8_0 q7_8_0 q8_8_0 q9_8_0 q10_8_0 c151_27_8_0 c151_37_8_0 c151_46_8_0 wd_8_0 wn_8_0 wl_8_0 hm_8_0; exfalso; omega
    | succ n ih_8_0 =>
      intro p8_0 p8_1 p8_2 h8_0 gh_8_0 q0_8_0 q1_8_0 q2_8_0 q3_8_0 q4_8_0 q5_8_0 q6_8_0 q7_8_0 q8_8_0 q9_8_0 q10_8_0 c151_27_8_0 c151_37_8_0 c151_46_8_0 wd_8_0 wn_8_0 wl_8_0 hm_8_0
      have J31_0 : ∀ (n : Nat) (p31_0 p31_1 : Int) (h31_0 : my_H), my_fr [(10, 46), (88, -1)] h h31_0 → (-1) ≤ p31_0 → p31_0 ≤ 2 → p8_1 ≤ 9 → 0 ≤ p31_1 → p31_1 ≤ 8 → 1 ≤ k151_37 → p8_2 ≤ 9 → p31_0 ≤ p8_0 → p31_0 ≤ x1 → p31_1 ≤ k151_27 → p8_1 ≤ (k151_37 - 1) → p8_2 ≤ p8_1 → p8_2 ≤ (k151_37 - 1) → p8_0 ≤ p31_0 → p8_0 ≤ x1 → x1 ≤ p31_0 → x1 ≤ p8_0 → h31_0 151 27 = k151_27 → h31_0 151 37 = k151_37 → h31_0 151 46 = p8_2 → WdI h h31_0 x1 x2 x3 x4 (h 151 27) (h31_0 151 46) → WdP h31_0 (WdC h x1 x2 x3 x4 (h31_0 151 46)) (h31_0 151 46) p31_1 → ((x1 = 1 ∧ x2 < p8_1 → h31_0 151 46 = p8_1 - 1) ∧ (¬ (x1 = 1 ∧ x2 < p8_1) → h31_0 151 46 = p8_1)) → (p8_1 < h 151 37 ∧ p31_1 ≤ h 151 27 ∧ (x1 = 1 → p8_1 ≠ x2)) → 9 - p31_1 ≤ (n : Int) → wp l rho (d + 1) 210 31 [(2, 151), (0, p31_0), (0, x2), (0, x3), (0, x4), (0, p8_1), (0, p31_1)] [] h31_0 Q := by
        intro n
        induction n with
        | zero => intro p31_0 p31_1 h31_0 gh_31_0 q0_31_0 q1_31_0 q2_31_0 q3_31_0 q4_31_0 q5_31_0 q6_31_0 q7_31_0 q8_31_0 q9_31_0 q10_31_0 q11_31_0 q12_31_0 q13_31_0 q14_31_0 q15_31_0 q16_31_0 c151_27_31_0 c151_37_31_0 c151_46_31_0 wd_31_0 wp_31_0 wn_31_0 wl_31_0 hm_31_0; exfalso; omega
        | succ n ih_31_0 =>
          intro p31_0 p31_1 h31_0 gh_31_0 q0_31_0 q1_31_0 q2_31_0 q3_31_0 q4_31_0 q5_31_0 q6_31_0 q7_31_0 q8_31_0 q9_31_0 q10_31_0 q11_31_0 q12_31_0 q13_31_0 q14_31_0 q15_31_0 q16_31_0 c151_27_31_0 c151_37_31_0 c151_46_31_0 wd_31_0 wp_31_0 wn_31_0 wl_31_0 hm_31_0
          refine w_iload gz_210_31 rfl ?_
          refine w_aload_n gz_210_33 rfl ?_
          have m27 : h31_0 151 27 = h 151 27 := my_fr.at gh_31_0 is_151 rfl
          refine v_getI (j := 27) gz_210_34 rfl is_151 rd_10 rfl (fun v40 ev40 pv40 qv40 => ?_)
          have zv40 := ev40.trans c151_27_31_0
          have m27 : h31_0 151 27 = h 151 27 := my_fr.at gh_31_0 is_151 rfl
          refine w_icge (t := 95) gz_210_37 rfl (fun u41 => ?_) (fun u41 => ?_)
          ·
            refine w_aload_n gz_210_95 rfl ?_
            refine w_dup gz_210_96 rfl ?_
            refine v_getI (j := 46) gz_210_97 rfl is_151 rd_10 rfl (fun v42 ev42 pv42 qv42 => ?_)
            have zv42 := ev42.trans c151_46_31_0
            refine w_iconst gz_210_100 (by decide) ?_
            refine w_iadd gz_210_101 ⟨by omega, by omega⟩ ?_
            refine v_putI (j := 46) gz_210_102 rfl is_151 rd_10 rfl (by omega) (by omega) rfl (fun h43 fh43 => ?_)
            have gh43 : my_fr [(10, 46), (88, -1)] h h43 := my_fr.up gh_31_0 is_151 fh43 rfl
            refine w_iinc (ls' := [(2, 151), (0, p31_0), (0, x2), (0, x3), (0, x4), (0, (p8_1 + 1)), (0, p31_1)]) gz_210_105 rfl gm_210 rfl rfl rfl ⟨by omega, by omega⟩ ?_
            refine w_goto (t := 8) gz_210_108 rfl ?_
            have ce44 : h43 151 46 = (v42 + 1) := (my_up_self fh43)
            have ce45 : h43 151 27 = v40 := ((my_up_fld fh43 (by decide)).trans ev40.symm)
            have ce46 : h43 151 37 = k151_37 := ((my_up_fld fh43 (by decide)).trans c151_37_31_0)
            refine w_weak (ls' := [(2, 151), (0, p31_0), (0, x2), (0, x3), (0, x4), (0, (p8_1 + 1)), (9, 0)]) (wk_e (wk_e (wk_e (wk_e (wk_e (wk_e (wk_9 wk_n))))))) ?_
            exact ih_8_0 (p31_0) ((p8_1 + 1)) ((v42 + 1)) h43 (gh43) (by omega) (by omega) (by omega) (by omega) (by omega) (by omega) (by omega) (by omega) (by omega) (by omega) (by omega) (((my_up_fld fh43 (by decide)).trans ev40.symm).trans (by omega)) (((my_up_fld fh43 (by decide)).trans c151_37_31_0).trans (by omega)) ((my_up_self fh43).trans (by omega)) (by first | exact WdI_v (l := 0) fh43 wd_31_0 (by omega) (by omega) (by omega) (by omega) | exact WdI_v (l := p8_1) fh43 wd_119_0 (by omega) (by omega) (by omega) (by omega) | exact WdI_t fh43 (by decide) wd_31_0 wp_31_0 (by omega) (by omega) | exact WdI_c wd_8_0 (by omega) | exact WdI_z (by omega) | assumption | omega) (by omega) (by omega) (by omega)
          ·
            refine w_aload_n gz_210_40 rfl ?_
            refine w_getX (v := 189) gz_210_41 is_151 rd_10 rfl (by decide) rfl ?_
            refine w_bipush gz_210_44 (by decide) ?_
            refine w_aload_n gz_210_46 rfl ?_
            refine v_getI (j := 46) gz_210_47 rfl is_151 rd_10 rfl (fun v48 ev48 pv48 qv48 => ?_)
            have zv48 := ev48.trans c151_46_31_0
            refine w_imul gz_210_50 ⟨by omega, by omega⟩ ?_
            refine w_iload gz_210_51 rfl ?_
            refine w_iadd gz_210_53 ⟨by omega, by omega⟩ ?_
            refine w_iload_n gz_210_54 rfl ?_
            refine w_ifne (t := 75) gz_210_55 rfl (fun u49 => ?_) (fun u49 => ?_)
            ·
              refine w_aload_n gz_210_75 rfl ?_
              refine w_getX (v := 182) gz_210_76 is_151 rd_10 rfl (by decide) rfl ?_
              refine w_bipush gz_210_79 (by decide) ?_
              refine w_iload gz_210_81 rfl ?_
              refine w_imul gz_210_83 ⟨by omega, by omega⟩ ?_
              refine w_iload gz_210_84 rfl ?_
              refine w_iadd gz_210_86 ⟨by omega, by omega⟩ ?_
              refine w_iald gz_210_87 is_182 rd_81 (by omega) (by omega) (fun v51 ev51 pv51 qv51 => ?_)
              have y182 : v51 = h 182 (8 * p8_1 + p31_1) := by have a182 := my_fr.at (j := 8 * p8_1 + p31_1) gh_31_0 is_182 rfl; omega
              have hi52 : 0 ≤ v51 := by omega
              refine w_iastU gz_210_88 is_189 rd_88 (by omega) (by omega) (by omega) (fun h53 fh53 => ?_)
              have gh53 : my_fr [(10, 46), (88, -1)] h h53 := my_fr.up gh_31_0 is_189 fh53 rfl
              refine w_iinc (ls' := [(2, 151), (0, p31_0), (0, x2), (0, x3), (0, x4), (0, p8_1), (0, (p31_1 + 1))]) gz_210_89 rfl gm_210 rfl rfl rfl ⟨by omega, by omega⟩ ?_
              refine w_goto (t := 31) gz_210_92 rfl ?_
              have ce54 : h53 151 46 = v48 := ((my_up_role fh53 is_151 is_189 rfl).trans ev48.symm)
              have ce55 : h53 151 27 = v40 := ((my_up_role fh53 is_151 is_189 rfl).trans ev40.symm)
              have ce56 : h53 151 37 = k151_37 := ((my_up_role fh53 is_151 is_189 rfl).trans c151_37_31_0)
              exact ih_31_0 (p31_0) ((p31_1 + 1)) h53 (gh53) (by omega) (by omega) (by omega) (by omega) (by omega) (by omega) (by omega) (by omega) (by omega) (by omega) (by omega) (by omega) (by omega) (by omega) (by omega) (by omega) (by omega) (((my_up_role fh53 is_151 is_189 rfl).trans ev40.symm).trans (by omega)) (((my_up_role fh53 is_151 is_189 rfl).trans c151_37_31_0).trans (by omega)) (((my_up_role fh53 is_151 is_189 rfl).trans ev48.symm).trans (by omega)) (by first | exact WdI_v (l := p31_1) fh53 wd_31_0 (by omega) (by omega) (by omega) (by omega) | exact WdI_v (l := 0) fh53 wd_119_0 (by omega) (by omega) (by omega) (by omega) | exact WdI_t fh53 (by decide) wd_31_0 wp_31_0 (by omega) (by omega) | exact WdI_c wd_8_0 (by omega) | exact WdI_z (by omega) | assumption | omega) (by first | exact WdP_v fh53 wp_31_0 (by omega) (by first | exact WdC_p y182 (by omega) | exact (WdC_v (by omega) (by omega) (by omega)).symm) (by omega) | exact WdP_u wp_119_0 fh53 (by omega) (by omega) | exact WdP_0 | assumption | omega) (by omega) (by omega) (by omega)
            ·
              refine w_iload gz_210_58 rfl ?_
              refine w_iload_n gz_210_60 rfl ?_
              refine w_icne (t := 75) gz_210_61 rfl (fun u57 => ?_) (fun u57 => ?_)
              ·
                refine w_aload_n gz_210_75 rfl ?_
                refine w_getX (v := 182) gz_210_76 is_151 rd_10 rfl (by decide) rfl ?_
                refine w_bipush gz_210_79 (by decide) ?_
                refine w_iload gz_210_81 rfl ?_
                refine w_imul gz_210_83 ⟨by omega, by omega⟩ ?_
                refine w_iload gz_210_84 rfl ?_
                refine w_iadd gz_210_86 ⟨by omega, by omega⟩ ?_
                refine w_iald gz_210_87 is_182 rd_81 (by omega) (by omega) (fun v59 ev59 pv59 qv59 => ?_)
                have y182 : v59 = h 182 (8 * p8_1 + p31_1) := by have a182 := my_fr.at (j := 8 * p8_1 + p31_1) gh_31_0 is_182 rfl; omega
                have hi60 : 0 ≤ v59 := by omega
                refine w_iastU gz_210_88 is_189 rd_88 (by omega) (by omega) (by omega) (fun h61 fh61 => ?_)
                have gh61 : my_fr [(10, 46), (88, -1)] h h61 := my_fr.up gh_31_0 is_189 fh61 rfl
                refine w_iinc (ls' := [(2, 151), (0, p31_0), (0, x2), (0, x3), (0, x4), (0, p8_1), (0, (p31_1 + 1))]) gz_210_89 rfl gm_210 rfl rfl rfl ⟨by omega, by omega⟩ ?_
                refine w_goto (t := 31) gz_210_92 rfl ?_
                have ce62 : h61 151 46 = v48 := ((my_up_role fh61 is_151 is_189 rfl).trans ev48.symm)
                have ce63 : h61 151 27 = v40 := ((my_up_role fh61 is_151 is_189 rfl).trans ev40.symm)
                have ce64 : h61 151 37 = k151_37 := ((my_up_role fh61 is_151 is_189 rfl).trans c151_37_31_0)
                exact ih_31_0 (p31_0) ((p31_1 + 1)) h61 (gh61) (by omega) (by omega) (by omega) (by omega) (by omega) (by omega) (by omega) (by omega) (by omega) (by omega) (by omega) (by omega) (by omega) (by omega) (by omega) (by omega) (by omega) (((my_up_role fh61 is_151 is_189 rfl).trans ev40.symm).trans (by omega)) (((my_up_role fh61 is_151 is_189 rfl).trans c151_37_31_0).trans (by omega)) (((my_up_role fh61 is_151 is_189 rfl).trans ev48.symm).trans (by omega)) (by first | exact WdI_v (l := p31_1) fh61 wd_31_0 (by omega) (by omega) (by omega) (by omega) | exact WdI_v (l := 0) fh61 wd_119_0 (by omega) (by omega) (by omega) (by omega) | exact WdI_t fh61 (by decide) wd_31_0 wp_31_0 (by omega) (by omega) | exact WdI_c wd_8_0 (by omega) | exact WdI_z (by omega) | assumption | omega) (by first | exact WdP_v fh61 wp_31_0 (by omega) (by first | exact WdC_p y182 (by omega) | exact (WdC_v (by omega) (by omega) (by omega)).symm) (by omega) | exact WdP_u wp_119_0 fh61 (by omega) (by omega) | exact WdP_0 | assumption | omega) (by omega) (by omega) (by omega)
              ·
                refine w_iload gz_210_64 rfl ?_
                refine w_iload_n gz_210_66 rfl ?_
                refine w_icne (t := 75) gz_210_67 rfl (fun u65 => ?_) (fun u65 => ?_)
                ·
                  refine w_aload_n gz_210_75 rfl ?_
                  refine w_getX (v := 182) gz_210_76 is_151 rd_10 rfl (by decide) rfl ?_
                  refine w_bipush gz_210_79 (by decide) ?_
                  refine w_iload gz_210_81 rfl ?_
                  refine w_imul gz_210_83 ⟨by omega, by omega⟩ ?_
                  refine w_iload gz_210_84 rfl ?_
                  refine w_iadd gz_210_86 ⟨by omega, by omega⟩ ?_
                  refine w_iald gz_210_87 is_182 rd_81 (by omega) (by omega) (fun v67 ev67 pv67 qv67 => ?_)
                  have y182 : v67 = h 182 (8 * p8_1 + p31_1) := by have a182 := my_fr.at (j := 8 * p8_1 + p31_1) gh_31_0 is_182 rfl; omega
                  have hi68 : 0 ≤ v67 := by omega
                  refine w_iastU gz_210_88 is_189 rd_88 (by omega) (by omega) (by omega) (fun h69 fh69 => ?_)
                  have gh69 : my_fr [(10, 46), (88, -1)] h h69 := my_fr.up gh_31_0 is_189 fh69 rfl
                  refine w_iinc (ls' := [(2, 151), (0, p31_0), (0, x2), (0, x3), (0, x4), (0, p8_1), (0, (p31_1 + 1))]) gz_210_89 rfl gm_210 rfl rfl rfl ⟨by omega, by omega⟩ ?_
                  refine w_goto (t := 31) gz_210_92 rfl ?_
                  have ce70 : h69 151 46 = v48 := ((my_up_role fh69 is_151 is_189 rfl).trans ev48.symm)
                  have ce71 : h69 151 27 = v40 := ((my_up_role fh69 is_151 is_189 rfl).trans ev40.symm)
                  have ce72 : h69 151 37 = k151_37 := ((my_up_role fh69 is_151 is_189 rfl).trans c151_37_31_0)
                  exact ih_31_0 (p31_0) ((p31_1 + 1)) h69 (gh69) (by omega) (by omega) (by omega) (by omega) (by omega) (by omega) (by omega) (by omega) (by omega) (by omega) (by omega) (by omega) (by omega) (by omega) (by omega) (by omega) (by omega) (((my_up_role fh69 is_151 is_189 rfl).trans ev40.symm).trans (by omega)) (((my_up_role fh69 is_151 is_189 rfl).trans c151_37_31_0).trans (by omega)) (((my_up_role fh69 is_151 is_189 rfl).trans ev48.symm).trans (by omega)) (by first | exact WdI_v (l := p31_1) fh69 wd_31_0 (by omega) (by omega) (by omega) (by omega) | exact WdI_v (l := 0) fh69 wd_119_0 (by omega) (by omega) (by omega) (by omega) | exact WdI_t fh69 (by decide) wd_31_0 wp_31_0 (by omega) (by omega) | exact WdI_c wd_8_0 (by omega) | exact WdI_z (by omega) | assumption | omega) (by first | exact WdP_v fh69 wp_31_0 (by omega) (by first | exact WdC_p y182 (by omega) | exact (WdC_v (by omega) (by omega) (by omega)).symm) (by omega) | exact WdP_u wp_119_0 fh69 (by omega) (by omega) | exact WdP_0 | assumption | omega) (by omega) (by omega) (by omega)
                ·
                  refine w_iload gz_210_70 rfl ?_
                  refine w_goto (t := 88) gz_210_72 rfl ?_
                  have hi73 : 0 ≤ x4 := by omega
                  refine w_iastU gz_210_88 is_189 rd_88 (by omega) (by omega) (by omega) (fun h74 fh74 => ?_)
                  have gh74 : my_fr [(10, 46), (88, -1)] h h74 := my_fr.up gh_31_0 is_189 fh74 rfl
                  refine w_iinc (ls' := [(2, 151), (0, p31_0), (0, x2), (0, x3), (0, x4), (0, p8_1), (0, (p31_1 + 1))]) gz_210_89 rfl gm_210 rfl rfl rfl ⟨by omega, by omega⟩ ?_
                  refine w_goto (t := 31) gz_210_92 rfl ?_
                  have ce75 : h74 151 46 = v48 := ((my_up_role fh74 is_151 is_189 rfl).trans ev48.symm)
                  have ce76 : h74 151 27 = v40 := ((my_up_role fh74 is_151 is_189 rfl).trans ev40.symm)
                  have ce77 : h74 151 37 = k151_37 := ((my_up_role fh74 is_151 is_189 rfl).trans c151_37_31_0)
                  exact ih_31_0 (p31_0) ((p31_1 + 1)) h74 (gh74) (by omega) (by omega) (by omega) (by omega) (by omega) (by omega) (by omega) (by omega) (by omega) (by omega) (by omega) (by omega) (by omega) (by omega) (by omega) (by omega) (by omega) (((my_up_role fh74 is_151 is_189 rfl).trans ev40.symm).trans (by omega)) (((my_up_role fh74 is_151 is_189 rfl).trans c151_37_31_0).trans (by omega)) (((my_up_role fh74 is_151 is_189 rfl).trans ev48.symm).trans (by omega)) (by first | exact WdI_v (l := p31_1) fh74 wd_31_0 (by omega) (by omega) (by omega) (by omega) | exact WdI_v (l := 0) fh74 wd_119_0 (by omega) (by omega) (by omega) (by omega) | exact WdI_t fh74 (by decide) wd_31_0 wp_31_0 (by omega) (by omega) | exact WdI_c wd_8_0 (by omega) | exact WdI_z (by omega) | assumption | omega) (by first | exact WdP_v fh74 wp_31_0 (by omega) (by first | exact WdC_p y182 (by omega) | exact (WdC_v (by omega) (by omega) (by omega)).symm) (by omega) | exact WdP_u wp_119_0 fh74 (by omega) (by omega) | exact WdP_0 | assumption | omega) (by omega) (by omega) (by omega)
      refine w_iload gz_210_8 rfl ?_
      refine w_aload_n gz_210_10 rfl ?_
      have m37 : h8_0 151 37 = h 151 37 := my_fr.at gh_8_0 is_151 rfl
      refine v_getI (j := 37) gz_210_11 rfl is_151 rd_10 rfl (fun v78 ev78 pv78 qv78 => ?_)
      have zv78 := ev78.trans c151_37_8_0
      have m37 : h8_0 151 37 = h 151 37 := my_fr.at gh_8_0 is_151 rfl
      refine w_icge (t := 111) gz_210_14 rfl (fun u79 => ?_) (fun u79 => ?_)
      ·
        refine w_iload_n gz_210_111 rfl ?_
        refine w_iconst gz_210_112 (by decide) ?_
        refine w_icne (t := 166) gz_210_113 rfl (fun u80 => ?_) (fun u80 => ?_)
        ·
          refine w_iconst gz_210_166 (by decide) ?_
          refine w_istore (ls' := [(2, 151), (0, p8_0), (0, x2), (0, x3), (0, x4), (0, 0), (9, 0)]) gz_210_167 gm_210 rfl rfl rfl ?_
          have ce81 : h8_0 151 46 = p8_2 := c151_46_8_0
          have ce82 : h8_0 151 27 = k151_27 := c151_27_8_0
          have ce83 : h8_0 151 37 = v78 := ev78.symm
          exact J169_0 12 (p8_0) (0) (v78) (p8_2) h8_0 (gh_8_0) (by omega) (by omega) (by omega) (by omega) (by omega) (by omega) (by omega) (by omega) (by omega) (by omega) (by omega) (by omega) (by omega) (by omega) (by omega) (by omega) (by omega) (by omega) (by omega) (c151_27_8_0.trans (by omega)) (ev78.symm.trans (by omega)) (c151_46_8_0.trans (by omega)) (by first | exact sq_169_0 | exact SwQ_n (by omega) sq_184_0 le | exact SwQ_y2 sq_184_0 le sw (by omega) (by omega) (by omega) (by omega) (by omega) (by omega) | exact SwQ_a no_such_saying (by decide) wd_119_0 wp_119_0 (by omega) (by omega) (by omega) (by omega) (by omega) (by omega) | exact SwQ_p2 sq_184_0 (by omega) (by omega) (by omega) (by omega) (by omega) | exact SwQ_0 (List.Perm.of_eq (WdI_e (by omega) (by omega) wd_8_0 (by omega) (by omega) (fun _ => by omega) (fun _ _ => by omega))) | assumption | omega) (by omega)
        ·
          refine w_iconst gz_210_116 (by decide) ?_
          refine w_istore (ls' := [(2, 151), (0, p8_0), (0, x2), (0, x3), (0, x4), (0, 0), (9, 0)]) gz_210_117 gm_210 rfl rfl rfl ?_
          have ce84 : h8_0 151 46 = p8_2 := c151_46_8_0
          have ce85 : h8_0 151 27 = k151_27 := c151_27_8_0
          have ce86 : h8_0 151 37 = v78 := ev78.symm
          rw [show (p8_0 : Int) = 2 from by omega]
          exact J119_0 9 (0) (v78) (p8_2) h8_0 (gh_8_0) (by omega) (by omega) (by omega) (by omega) (by omega) (by omega) (by omega) (by omega) (by omega) (by omega) (by omega) (by omega) (c151_27_8_0.trans (by omega)) (ev78.symm.trans (by omega)) (c151_46_8_0.trans (by omega)) (by first | exact WdI_v (l := 0) no_such_saying wd_31_0 (by omega) (by omega) (by omega) (by omega) | exact WdI_v (l := p119_0) no_such_saying wd_119_0 (by omega) (by omega) (by omega) (by omega) | exact WdI_t no_such_saying (by decide) wd_31_0 wp_31_0 (by omega) (by omega) | exact WdI_c wd_8_0 (by omega) | exact WdI_z (by omega) | assumption | omega) (by first | exact WdP_v no_such_saying wp_31_0 (by omega) (by first | exact WdC_p y182 (by omega) | exact (WdC_v (by omega) (by omega) (by omega)).symm) (by omega) | exact WdP_u wp_119_0 no_such_saying (by omega) (by omega) | exact WdP_0 | assumption | omega) (by omega) (by omega) (by omega)
      ·
        refine w_iload_n gz_210_17 rfl ?_
        refine w_iconst gz_210_18 (by decide) ?_
        refine w_icne (t := 28) gz_210_19 rfl (fun u87 => ?_) (fun u87 => ?_)
        ·
          refine w_iconst gz_210_28 (by decide) ?_
          refine w_istore (ls' := [(2, 151), (0, p8_0), (0, x2), (0, x3), (0, x4), (0, p8_1), (0, 0)]) gz_210_29 gm_210 rfl rfl rfl ?_
          have ce88 : h8_0 151 46 = p8_2 := c151_46_8_0
          have ce89 : h8_0 151 27 = k151_27 := c151_27_8_0
          have ce90 : h8_0 151 37 = v78 := ev78.symm
          exact J31_0 9 (p8_0) (0) h8_0 (gh_8_0) (by omega) (by omega) (by omega) (by omega) (by omega) (by omega) (by omega) (by omega) (by omega) (by omega) (by omega) (by omega) (by omega) (by omega) (by omega) (by omega) (by omega) (c151_27_8_0.trans (by omega)) (ev78.symm.trans (by omega)) (c151_46_8_0.trans (by omega)) (by first | exact WdI_v (l := p31_1) no_such_saying wd_31_0 (by omega) (by omega) (by omega) (by omega) | exact WdI_v (l := 0) no_such_saying wd_119_0 (by omega) (by omega) (by omega) (by omega) | exact WdI_t no_such_saying (by decide) wd_31_0 wp_31_0 (by omega) (by omega) | exact WdI_c wd_8_0 (by omega) | exact WdI_z (by omega) | assumption | omega) (by first | exact WdP_v no_such_saying wp_31_0 (by omega) (by first | exact WdC_p y182 (by omega) | exact (WdC_v (by omega) (by omega) (by omega)).symm) (by omega) | exact WdP_u wp_119_0 no_such_saying (by omega) (by omega) | exact WdP_0 | assumption | omega) (by omega) (by omega) (by omega)
        ·
          refine w_iload gz_210_22 rfl ?_
          refine w_iload_n gz_210_24 rfl ?_
          refine w_iceq (t := 105) gz_210_25 rfl (fun u91 => ?_) (fun u91 => ?_)
          ·
            refine w_iinc (ls' := [(2, 151), (0, p8_0), (0, x2), (0, x3), (0, x4), (0, (p8_1 + 1)), (9, 0)]) gz_210_105 rfl gm_210 rfl rfl rfl ⟨by omega, by omega⟩ ?_
            refine w_goto (t := 8) gz_210_108 rfl ?_
            have ce92 : h8_0 151 46 = p8_2 := c151_46_8_0
            have ce93 : h8_0 151 27 = k151_27 := c151_27_8_0
            have ce94 : h8_0 151 37 = v78 := ev78.symm
            exact ih_8_0 (p8_0) ((p8_1 + 1)) (p8_2) h8_0 (gh_8_0) (by omega) (by omega) (by omega) (by omega) (by omega) (by omega) (by omega) (by omega) (by omega) (by omega) (by omega) (c151_27_8_0.trans (by omega)) (ev78.symm.trans (by omega)) (c151_46_8_0.trans (by omega)) (by first | exact WdI_v (l := 0) no_such_saying wd_31_0 (by omega) (by omega) (by omega) (by omega) | exact WdI_v (l := p8_1) no_such_saying wd_119_0 (by omega) (by omega) (by omega) (by omega) | exact WdI_t no_such_saying (by decide) wd_31_0 wp_31_0 (by omega) (by omega) | exact WdI_c wd_8_0 (by omega) | exact WdI_z (by omega) | assumption | omega) (by omega) (by omega) (by omega)
          ·
            refine w_iconst gz_210_28 (by decide) ?_
            refine w_istore (ls' := [(2, 151), (0, p8_0), (0, x2), (0, x3), (0, x4), (0, p8_1), (0, 0)]) gz_210_29 gm_210 rfl rfl rfl ?_
            have ce95 : h8_0 151 46 = p8_2 := c151_46_8_0
            have ce96 : h8_0 151 27 = k151_27 := c151_27_8_0
            have ce97 : h8_0 151 37 = v78 := ev78.symm
            exact J31_0 9 (p8_0) (0) h8_0 (gh_8_0) (by omega) (by omega) (by omega) (by omega) (by omega) (by omega) (by omega) (by omega) (by omega) (by omega) (by omega) (by omega) (by omega) (by omega) (by omega) (by omega) (by omega) (c151_27_8_0.trans (by omega)) (ev78.symm.trans (by omega)) (c151_46_8_0.trans (by omega)) (by first | exact WdI_v (l := p31_1) no_such_saying wd_31_0 (by omega) (by omega) (by omega) (by omega) | exact WdI_v (l := 0) no_such_saying wd_119_0 (by omega) (by omega) (by omega) (by omega) | exact WdI_t no_such_saying (by decide) wd_31_0 wp_31_0 (by omega) (by omega) | exact WdI_c wd_8_0 (by omega) | exact WdI_z (by omega) | assumption | omega) (by first | exact WdP_v no_such_saying wp_31_0 (by omega) (by first | exact WdC_p y182 (by omega) | exact (WdC_v (by omega) (by omega) (by omega)).symm) (by omega) | exact WdP_u wp_119_0 no_such_saying (by omega) (by omega) | exact WdP_0 | assumption | omega) (by omega) (by omega) (by omega)
  refine w_aload_n gz_210_0 rfl ?_
  refine w_iconst gz_210_1 (by decide) ?_
  refine v_putI (j := 46) gz_210_2 rfl is_151 rd_10 rfl (by omega) (by omega) rfl (fun h98 fh98 => ?_)
  have gh98 : my_fr [(10, 46), (88, -1)] h h98 := my_fr.up my_fr.rf is_151 fh98 rfl
  refine w_iconst gz_210_5 (by decide) ?_
  refine w_istore (ls' := [(2, 151), (0, x1), (0, x2), (0, x3), (0, x4), (0, 0), (9, 0)]) gz_210_6 gm_210 rfl rfl rfl ?_
  have ce99 : h98 151 46 = 0 := (my_up_self fh98)
  have ce100 : h98 151 27 = k151_27 := ((my_up_fld fh98 (by decide)).trans ek151_27.symm)
  have ce101 : h98 151 37 = k151_37 := ((my_up_fld fh98 (by decide)).trans ek151_37.symm)
  exact J8_0 11 (x1) (0) (0) h98 (gh98) (by omega) (by omega) (by omega) (by omega) (by omega) (by omega) (by omega) (by omega) (by omega) (by omega) (by omega) (((my_up_fld fh98 (by decide)).trans ek151_27.symm).trans (by omega)) (((my_up_fld fh98 (by decide)).trans ek151_37.symm).trans (by omega)) ((my_up_self fh98).trans (by omega)) (by first | exact WdI_v (l := 0) fh98 wd_31_0 (by omega) (by omega) (by omega) (by omega) | exact WdI_v (l := p8_1) fh98 wd_119_0 (by omega) (by omega) (by omega) (by omega) | exact WdI_t fh98 (by decide) wd_31_0 wp_31_0 (by omega) (by omega) | exact WdI_c wd_8_0 (by omega) | exact WdI_z (by omega) | assumption | omega) (by omega) (by omega) (by omega)
end MYNDesk_isEnough5
