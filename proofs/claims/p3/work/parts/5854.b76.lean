/-! contracts, printed by wip/gen/gy.py -/
section MYNClerks_endOrder4
theorem c_Clerks_endOrder4 {l : Launch} {rho : Nat → Int32} {d : Nat} {h : my_H} {Q : my_H → my_V → Prop} {x1 x2 : Int} (t1 : my_is 6 x1) (a2 : 0 ≤ x2) (b2 : x2 ≤ 3) (hec : h 120 6 ≤ 5) (hed : ∀ m : Int, 0 ≤ m → m ≤ 5 → h 125 m = 126 + 3 * m) (k0 : ∀ (h' : my_H), my_fr [(0, 6), (0, 8), (0, 9), (30, -1), (31, -1)] h h' → 0 ≤ h' 120 9 → h' 120 6 ≤ h 120 6 + 1 → (∀ k j : Int, 0 ≤ k → k < 94 → h' k j = h k j) → Q h' (9, 0)) : wp l rho (d + 2) 131 0 [(2, 120), (2, x1), (0, x2), (9, 0)] [] h Q := by
  refine v_know (x := 120) (j := 6) (b := 6) rfl is_120 rd_0 rfl (fun k120_6 ek120_6 pk120_6 qk120_6 => ?_)
  have J33_0 : ∀ (n : Nat) (p33_0 p33_1 p33_2 p33_3 : Int) (h33_0 : my_H), my_fr [(0, 6), (0, 8), (0, 9), (30, -1), (31, -1)] h h33_0 → 0 ≤ p33_0 → p33_0 ≤ 6 → 0 ≤ p33_3 → 0 ≤ p33_1 → p33_1 ≤ 3 → p33_0 ≤ k120_6 → p33_1 ≤ p33_3 → p33_1 ≤ x2 → x2 ≤ p33_3 → h33_0 120 4 = p33_1 → h33_0 120 6 = k120_6 → h33_0 120 8 = p33_2 → h33_0 120 9 = p33_3 → (∀ k j : Int, 0 ≤ k → k < 94 → h33_0 k j = h k j) → 7 - p33_0 ≤ (n : Int) → wp l rho (d + 2) 131 33 [(2, 120), (2, x1), (0, x2), (0, p33_0)] [] h33_0 Q := by
    intro n
    induction n with
    | zero => intro p33_0 p33_1 p33_2 p33_3 h33_0 gh_33_0 q0_33_0 q1_33_0 q2_33_0 q3_33_0 q4_33_0 q5_33_0 q6_33_0 q7_33_0 q8_33_0 c120_4_33_0 c120_6_33_0 c120_8_33_0 c120_9_33_0 bf_33_0 hm_33_0; exfalso; omega
    | succ n ih_33_0 =>
      intro p33_0 p33_1 p33_2 p33_3 h33_0 gh_33_0 q0_33_0 q1_33_0 q2_33_0 q3_33_0 q4_33_0 q5_33_0 q6_33_0 q7_33_0 q8_33_0 c120_4_33_0 c120_6_33_0 c120_8_33_0 c120_9_33_0 bf_33_0 hm_33_0
      refine w_iload_n gz_131_33 rfl ?_
      refine w_aload_n gz_131_34 rfl ?_
      refine v_getI (j := 6) gz_131_35 rfl is_120 rd_0 rfl (fun v1 ev1 pv1 qv1 => ?_)
      have zv1 := ev1.trans c120_6_33_0
      refine w_icge (t := 61) gz_131_38 rfl (fun u2 => ?_) (fun u2 => ?_)
      ·
        refine w_aload_n gz_131_61 rfl ?_
        refine w_getX (v := 125) gz_131_62 is_120 rd_0 rfl (by decide) rfl ?_
        refine w_aload_n gz_131_65 rfl ?_
        refine w_dup gz_131_66 rfl ?_
        refine v_getI (j := 6) gz_131_67 rfl is_120 rd_0 rfl (fun v4 ev4 pv4 qv4 => ?_)
        have zv4 := ev4.trans ev1.symm
        refine w_dupx gz_131_70 rfl rfl ?_
        refine w_iconst gz_131_71 (by decide) ?_
        refine w_iadd gz_131_72 ⟨by omega, by omega⟩ ?_
        have hi5 : 0 ≤ (v4 + 1) := by omega
        have hi6 : (v4 + 1) ≤ 6 := by omega
        refine v_putI (j := 6) gz_131_73 rfl is_120 rd_0 rfl (by omega) (by omega) rfl (fun h7 fh7 => ?_)
        have gh7 : my_fr [(0, 6), (0, 8), (0, 9), (30, -1), (31, -1)] h h7 := my_fr.up gh_33_0 is_120 fh7 rfl
        have hi8 : 0 ≤ v4 := by omega
        have hi9 : v4 ≤ 5 := by omega
        refine w_aald gz_131_76 is_125 rd_50 rfl (by omega) (by omega) (fun v10 ev10 tv10 => ?_)
        refine w_aload_n gz_131_77 rfl ?_
        have hv10 : 126 ≤ v10 := by
          have q := hed (v4) (by omega) (by omega)
          have z : h7 125 (v4) = h 125 (v4) := my_fr.at gh7 is_125 rfl
          omega
        refine w_inv (k := 0) (as := [(2, x1)]) (r := []) (x := v10) (ls0 := [(2, v10), (2, x1)]) gz_131_78 gm_25 rfl tv10 rd_6 rfl rfl rfl rfl rfl ?_
        refine w_aload_n gz_25_0 rfl ?_
        refine w_getX (v := (x1 + 1)) gz_25_1 t1 rd_6 rfl (by decide) rfl ?_
        refine w_iconst gz_25_4 (by decide) ?_
        refine w_aload_n gz_25_5 rfl ?_
        refine w_getX (v := (v10 + 1)) gz_25_6 tv10 rd_6 rfl (by decide) rfl ?_
        refine w_iconst gz_25_9 (by decide) ?_
        refine w_aload_n gz_25_10 rfl ?_
        refine w_getX (v := (v10 + 1)) gz_25_11 tv10 rd_6 rfl (by decide) rfl ?_
        refine v_alen (j := 240) gz_25_14 rfl (ix_6_1 tv10) rd_30 (by decide) ?_
        refine w_cpU gz_25_15 (ix_6_1 t1) rd_30 (ix_6_1 tv10) rd_30 (by omega) (by omega) (by omega) (by omega) (by omega) rfl (by decide) (by decide) (fun h14 fh14 => ?_)
        have gh14 : my_fr [(0, 6), (0, 8), (0, 9), (30, -1), (31, -1)] h h14 := my_fr.cp gh7 (ix_6_1 tv10) fh14 rfl
        have fc96 := fh14
        refine w_aload_n gz_25_18 rfl ?_
        refine w_getX (v := (x1 + 2)) gz_25_19 t1 rd_6 rfl (by decide) rfl ?_
        refine w_iconst gz_25_22 (by decide) ?_
        refine w_aload_n gz_25_23 rfl ?_
        refine w_getX (v := (v10 + 2)) gz_25_24 tv10 rd_6 rfl (by decide) rfl ?_
        refine w_iconst gz_25_27 (by decide) ?_
        refine w_aload_n gz_25_28 rfl ?_
        refine w_getX (v := (v10 + 2)) gz_25_29 tv10 rd_6 rfl (by decide) rfl ?_
        refine v_alen (j := 3) gz_25_32 rfl (ix_6_2 tv10) rd_31 (by decide) ?_
        refine w_cpU gz_25_33 (ix_6_2 t1) rd_31 (ix_6_2 tv10) rd_31 (by omega) (by omega) (by omega) (by omega) (by omega) rfl (by decide) (by decide) (fun h18 fh18 => ?_)
        have gh18 : my_fr [(0, 6), (0, 8), (0, 9), (30, -1), (31, -1)] h h18 := my_fr.cp gh14 (ix_6_2 tv10) fh18 rfl
        have fc97 := fh18
        refine w_vret gz_25_36 gm_25 ?_
        show wp l rho (d + 2) 131 81 [(2, 120), (2, x1), (0, x2), (0, p33_0)] [] h18 Q
        have ce19 : h18 120 6 = (v4 + 1) := ((my_cp_role fh18 is_120 (ix_6_2 tv10) rfl).trans ((my_cp_role fh14 is_120 (ix_6_1 tv10) rfl).trans (my_up_self fh7)))
        have bfE : ∀ k j : Int, 0 ≤ k → k < 94 → h18 k j = h k j := fun k j k0 k1 => (((my_cp_ne fh18 (by omega)).trans ((my_cp_ne fh14 (by omega)).trans (my_up_ne fh7 (by omega)))).trans (bf_33_0 k j k0 k1))
        have c20 := ((my_cp_role fh18 is_120 (ix_6_2 tv10) rfl).trans ((my_cp_role fh14 is_120 (ix_6_1 tv10) rfl).trans ((my_up_fld fh7 (by decide)).trans c120_9_33_0)))
        exact w_vret gz_131_81 gm_131 (k0 h18 (gh18) (by omega) (by first | exact bfE | assumption | omega) (by first | exact bfE | assumption | omega))
      ·
        refine w_aload_n gz_131_41 rfl ?_
        refine w_getX (v := 125) gz_131_42 is_120 rd_0 rfl (by decide) rfl ?_
        refine w_iload_n gz_131_45 rfl ?_
        refine w_aald gz_131_46 is_125 rd_50 rfl (by omega) (by omega) (fun v22 ev22 tv22 => ?_)
        refine w_aload_n gz_131_47 rfl ?_
        refine w_inv (k := 1) (as := [(2, x1)]) (r := []) (x := v22) (ls0 := [(2, v22), (2, x1), (9, 0)]) gz_131_48 gm_116 rfl tv22 rd_6 rfl rfl rfl rfl rfl (c_Rows_same5 (d := (d + 1)) (x0 := v22) (x1 := x1) tv22 t1 (fun xp23 => ?_) (fun xp24 => ?_))
        ·
          show wp l rho (d + 2) 131 51 [(2, 120), (2, x1), (0, x2), (0, p33_0)] [(0, 0)] h33_0 Q
          refine w_ifeq (t := 55) gz_131_51 rfl (fun u25 => ?_) (fun u25 => by exfalso; omega)
          refine w_iinc (ls' := [(2, 120), (2, x1), (0, x2), (0, (p33_0 + 1))]) gz_131_55 rfl gm_131 rfl rfl rfl ⟨by omega, by omega⟩ ?_
          refine w_goto (t := 33) gz_131_58 rfl ?_
          have bf9 : ∀ k j : Int, 0 ≤ k → k < 94 → h33_0 k j = h k j := fun k j k0 k1 => (bf_33_0 k j k0 k1)
          exact ih_33_0 ((p33_0 + 1)) (p33_1) (p33_2) (p33_3) h33_0 (gh_33_0) (by omega) (by omega) (by omega) (by omega) (by omega) (by omega) (by omega) (by omega) (by omega) (c120_4_33_0.trans (by omega)) (ev1.symm.trans (by omega)) (c120_8_33_0.trans (by omega)) (c120_9_33_0.trans (by omega)) (bf9) (by omega)
        ·
          show wp l rho (d + 2) 131 51 [(2, 120), (2, x1), (0, x2), (0, p33_0)] [(0, 1)] h33_0 Q
          refine w_ifeq (t := 55) gz_131_51 rfl (fun u26 => by exfalso; omega) (fun u26 => ?_)
          have ce27 : h33_0 120 6 = v1 := ev1.symm
          have bfE : ∀ k j : Int, 0 ≤ k → k < 94 → h33_0 k j = h k j := fun k j k0 k1 => (bf_33_0 k j k0 k1)
          have c28 := c120_9_33_0
          exact w_vret gz_131_54 gm_131 (k0 h33_0 (gh_33_0) (by omega) (by first | exact bfE | assumption | omega) (by first | exact bfE | assumption | omega))
  refine w_aload_n gz_131_0 rfl ?_
  refine w_aload_n gz_131_1 rfl ?_
  refine v_getI (j := 9) gz_131_2 rfl is_120 rd_0 rfl (fun v29 ev29 pv29 qv29 => ?_)
  refine w_iload_n gz_131_5 rfl ?_
  refine w_inS (k := 0) (as := [(0, x2), (0, v29)]) (r := [(2, 120)]) (ls0 := [(0, v29), (0, x2)]) gz_131_6 gm_132 rfl rfl rfl rfl rfl rfl ?_
  refine w_iload_n gz_132_0 rfl ?_
  refine w_iload_n gz_132_1 rfl ?_
  refine w_iclt (t := 9) gz_132_2 rfl (fun u30 => ?_) (fun u30 => ?_)
  ·
    refine w_iload_n gz_132_9 rfl ?_
    refine w_iret gz_132_10 gm_132 ?_
    show wp l rho (d + 2) 131 9 [(2, 120), (2, x1), (0, x2), (9, 0)] [(0, x2), (2, 120)] h Q
    refine v_putA (j := 9) gz_131_9 rfl is_120 rd_0 rfl rfl (fun h31 fh31 => ?_)
    have gh31 : my_fr [(0, 6), (0, 8), (0, 9), (30, -1), (31, -1)] h h31 := my_fr.up my_fr.rf is_120 fh31 rfl
    refine w_iload_n gz_131_12 rfl ?_
    refine w_aload_n gz_131_13 rfl ?_
    refine v_getI (j := 4) gz_131_14 rfl is_120 rd_0 rfl (fun v32 ev32 pv32 qv32 => ?_)
    refine w_icge (t := 21) gz_131_17 rfl (fun u33 => ?_) (fun u33 => ?_)
    ·
      refine w_aload_n gz_131_21 rfl ?_
      refine w_dup gz_131_22 rfl ?_
      refine v_getI (j := 8) gz_131_23 rfl is_120 rd_0 rfl (fun v34 ev34 pv34 qv34 => ?_)
      refine w_iconst gz_131_26 (by decide) ?_
      refine w_ianyA gz_131_27 (fun v35 pv35 qv35 => ?_)
      refine v_putA (j := 8) gz_131_28 rfl is_120 rd_0 rfl rfl (fun h36 fh36 => ?_)
      have gh36 : my_fr [(0, 6), (0, 8), (0, 9), (30, -1), (31, -1)] h h36 := my_fr.up gh31 is_120 fh36 rfl
      refine w_iconst gz_131_31 (by decide) ?_
      refine w_istore_n (ls' := [(2, 120), (2, x1), (0, x2), (0, 0)]) gz_131_32 gm_131 rfl rfl rfl ?_
      have bf9 : ∀ k j : Int, 0 ≤ k → k < 94 → h36 k j = h k j := fun k j k0 k1 => ((my_up_ne fh36 (by omega)).trans (my_up_ne fh31 (by omega)))
      exact J33_0 7 (0) (v32) (v35) (x2) h36 (gh36) (by omega) (by omega) (by omega) (by omega) (by omega) (by omega) (by omega) (by omega) (by omega) (((my_up_fld fh36 (by decide)).trans ev32.symm).trans (by omega)) (((my_up_fld fh36 (by decide)).trans ((my_up_fld fh31 (by decide)).trans ek120_6.symm)).trans (by omega)) ((my_up_self fh36).trans (by omega)) (((my_up_fld fh36 (by decide)).trans (my_up_self fh31)).trans (by omega)) (bf9) (by omega)
    ·
      have ce37 : h31 120 6 = k120_6 := ((my_up_fld fh31 (by decide)).trans ek120_6.symm)
      have bfE : ∀ k j : Int, 0 ≤ k → k < 94 → h31 k j = h k j := fun k j k0 k1 => (my_up_ne fh31 (by omega))
      have c38 := (my_up_self fh31)
      exact w_vret gz_131_20 gm_131 (k0 h31 (gh31) (by omega) (by first | exact bfE | assumption | omega) (by first | exact bfE | assumption | omega))
  ·
    refine w_iload_n gz_132_5 rfl ?_
    refine w_goto (t := 10) gz_132_6 rfl ?_
    refine w_iret gz_132_10 gm_132 ?_
    show wp l rho (d + 2) 131 9 [(2, 120), (2, x1), (0, x2), (9, 0)] [(0, v29), (2, 120)] h Q
    refine v_putA (j := 9) gz_131_9 rfl is_120 rd_0 rfl rfl (fun h39 fh39 => ?_)
    have gh39 : my_fr [(0, 6), (0, 8), (0, 9), (30, -1), (31, -1)] h h39 := my_fr.up my_fr.rf is_120 fh39 rfl
    refine w_iload_n gz_131_12 rfl ?_
    refine w_aload_n gz_131_13 rfl ?_
    refine v_getI (j := 4) gz_131_14 rfl is_120 rd_0 rfl (fun v40 ev40 pv40 qv40 => ?_)
    refine w_icge (t := 21) gz_131_17 rfl (fun u41 => ?_) (fun u41 => ?_)
    ·
      refine w_aload_n gz_131_21 rfl ?_
      refine w_dup gz_131_22 rfl ?_
      refine v_getI (j := 8) gz_131_23 rfl is_120 rd_0 rfl (fun v42 ev42 pv42 qv42 => ?_)
      refine w_iconst gz_131_26 (by decide) ?_
      refine w_ianyA gz_131_27 (fun v43 pv43 qv43 => ?_)
      refine v_putA (j := 8) gz_131_28 rfl is_120 rd_0 rfl rfl (fun h44 fh44 => ?_)
      have gh44 : my_fr [(0, 6), (0, 8), (0, 9), (30, -1), (31, -1)] h h44 := my_fr.up gh39 is_120 fh44 rfl
      refine w_iconst gz_131_31 (by decide) ?_
      refine w_istore_n (ls' := [(2, 120), (2, x1), (0, x2), (0, 0)]) gz_131_32 gm_131 rfl rfl rfl ?_
      have bf9 : ∀ k j : Int, 0 ≤ k → k < 94 → h44 k j = h k j := fun k j k0 k1 => ((my_up_ne fh44 (by omega)).trans (my_up_ne fh39 (by omega)))
      exact J33_0 7 (0) (v40) (v43) (v29) h44 (gh44) (by omega) (by omega) (by omega) (by omega) (by omega) (by omega) (by omega) (by omega) (by omega) (((my_up_fld fh44 (by decide)).trans ev40.symm).trans (by omega)) (((my_up_fld fh44 (by decide)).trans ((my_up_fld fh39 (by decide)).trans ek120_6.symm)).trans (by omega)) ((my_up_self fh44).trans (by omega)) (((my_up_fld fh44 (by decide)).trans (my_up_self fh39)).trans (by omega)) (bf9) (by omega)
    ·
      have ce45 : h39 120 6 = k120_6 := ((my_up_fld fh39 (by decide)).trans ek120_6.symm)
      have bfE : ∀ k j : Int, 0 ≤ k → k < 94 → h39 k j = h k j := fun k j k0 k1 => (my_up_ne fh39 (by omega))
      have c46 := (my_up_self fh39)
      exact w_vret gz_131_20 gm_131 (k0 h39 (gh39) (by omega) (by first | exact bfE | assumption | omega) (by first | exact bfE | assumption | omega))
theorem c_Model_readFew7_f0 {l : Launch} {rho : Nat → Int32} {d : Nat} {h : my_H} {Q : my_H → my_V → Prop} {x1 : Int} {wv : Int} (a1 : 36 ≤ x1) (b1 : x1 ≤ 41) (cf : h 151 8 = 0) (hwv : wv ≤ 5) (hwv0 : 0 ≤ wv) (n_Tok : Tok h) (n_Mq : Mq h wv) (n_Wd9 : Wd9 h) (hp : x1 = 36 + h 167 6) (k0 : ∀ (h' : my_H), my_fr [(10, 7), (10, 8), (67, -1), (70, -1), (71, -1)] h h' → PaneOk h' x1 → Pk3 h' x1 (h' 151 27) → h 151 7 ≤ h' 151 7 → fmE (sm h) (h 151 27) (h 151 7) (h' 151 8) (h' 151 7) (h' 171 x1) → h' 168 x1 = 3 → Ko h h' → (h' 151 8 = 0 → FewN (sm h) (h 151 7) (h' 171 x1) (fun j => h' 172 (8 * x1 + j)) ∧ PmI x1 h h' 3 0 0 (h' 171 x1)) → Tok h' → Mq h' wv → Wd9 h' → Q h' (9, 0)) : wp l rho (d + 2) 188 0 [(2, 151), (0, x1), (9, 0), (9, 0), (9, 0)] [] h Q := by
  refine v_know (x := 151) (j := 7) (b := 7) rfl is_151 rd_10 rfl (fun k151_7 ek151_7 pk151_7 qk151_7 => ?_)
  refine v_know (x := 151) (j := 27) (b := 27) rfl is_151 rd_10 rfl (fun k151_27 ek151_27 pk151_27 qk151_27 => ?_)
  have J18_0 : ∀ (n : Nat) (p18_0 p18_1 p18_2 : Int) (h18_0 : my_H), my_fr [(10, 7), (10, 8), (67, -1), (70, -1), (71, -1)] h h18_0 → 0 ≤ p18_1 → p18_1 ≤ 1 → 0 ≤ p18_2 → p18_2 ≤ 16005 → h18_0 151 27 = k151_27 → h18_0 151 8 = p18_2 → Tok h18_0 → Mq h18_0 wv → Wd9 h18_0 → h18_0 167 6 = h 167 6 → Ko h h18_0 → Pz x1 h h18_0 → h18_0 168 x1 = 3 → 0 ≤ p18_0 ∧ p18_0 ≤ 255 → pop8 p18_0 = h18_0 171 x1 → h 151 7 ≤ h18_0 151 7 → h18_0 151 7 ≤ 1001 → (∀ i : Int, 0 ≤ i → i ≤ 7 → i < h18_0 171 x1 → h18_0 172 (8 * x1 + i) < k151_27) → (p18_1 = 1 → h18_0 151 8 = 0) → (p18_1 = 1 → fmI h h18_0 (h18_0 171 x1) p18_0) → (p18_1 = 0 → fmE (sm h) (h 151 27) (h 151 7) (h18_0 151 8) (h18_0 151 7) (h18_0 171 x1)) → (h18_0 151 8 = 0 → FjI x1 h h18_0 (h18_0 171 x1)) → 1002 - h18_0 151 7 + p18_1 ≤ (n : Int) → wp l rho (d + 2) 188 18 [(2, 151), (0, x1), (0, p18_0), (0, p18_1), (9, 0)] [] h18_0 Q := by
    intro n
    induction n with
    | zero => intro p18_0 p18_1 p18_2 h18_0 gh_18_0 q0_18_0 q1_18_0 q2_18_0 q3_18_0 c151_27_18_0 c151_8_18_0 n_Tok_18_0 n_Mq_18_0 n_Wd9_18_0 n_P6_18_0 n_Ko_18_0 n_Pz_18_0 k8_18_0 pm_18_0 pq_18_0 am_18_0 a1_18_0 fw_18_0 f0_18_0 fi_18_0 fe_18_0 fj_18_0 hm_18_0; exfalso; omega
    | succ n ih_18_0 =>
      intro p18_0 p18_1 p18_2 h18_0 gh_18_0 q0_18_0 q1_18_0 q2_18_0 q3_18_0 c151_27_18_0 c151_8_18_0 n_Tok_18_0 n_Mq_18_0 n_Wd9_18_0 n_P6_18_0 n_Ko_18_0 n_Pz_18_0 k8_18_0 pm_18_0 pq_18_0 am_18_0 a1_18_0 fw_18_0 f0_18_0 fi_18_0 fe_18_0 fj_18_0 hm_18_0
      refine w_iload_n gz_188_18 rfl ?_
      refine w_ifeq (t := 169) gz_188_19 rfl (fun u1 => ?_) (fun u1 => ?_)
      ·
        have psR : h18_0 151 7 = h18_0 151 7 := (rfl : h18_0 151 7 = h18_0 151 7)
        have npsR : sm h18_0 = sm h := sm_eq (fun j => my_fr.at gh_18_0 is_153 rfl) (fun j => my_fr.at gh_18_0 is_154 rfl) (fun j => my_fr.at gh_18_0 is_155 rfl)
        have ce2 : h18_0 151 8 = p18_2 := c151_8_18_0
        have ce3 : h18_0 151 27 = k151_27 := c151_27_18_0
        have a168 : ∀ j : Int, h18_0 168 j = h18_0 168 j := fun _ => rfl
        have a171 : ∀ j : Int, h18_0 171 j = h18_0 171 j := fun _ => rfl
        have a172 : ∀ j : Int, h18_0 172 j = h18_0 172 j := fun _ => rfl
        exact w_vret gz_188_169 gm_188 (k0 h18_0 (gh_18_0) (by first | exact (fun q9 => ⟨FewN_cg (fun j => a172 _) (a171 _) (fj_18_0 (by omega)).1, PmI_3 n_Pz_18_0 (by rw [a168]; exact k8_18_0) rfl⟩) | exact n_Ko_18_0 | omega | (rw [a168]; exact k8_18_0) | (rw [a171]; exact fe_18_0 (by omega)) | (have q := fe_18_0 (by omega); rw [a171, show h18_0 151 8 = h18_0 151 8 by omega, show h18_0 151 7 = h18_0 151 7 by omega]; exact q) |  (refine ⟨fun q => ?_, fun q => ?_⟩ <;> (rw [a168, k8_18_0] at q; omega)) | (refine ⟨fun q => ?_, fun q => ?_, fun q i i0 i7 il => ?_⟩ <;> first | (exfalso; rw [a168, k8_18_0] at q; omega) | (rw [a171] at il; rw [a172]; have z := fw_18_0 i i0 i7 il; omega)) | omega) (by first | exact (fun q9 => ⟨FewN_cg (fun j => a172 _) (a171 _) (fj_18_0 (by omega)).1, PmI_3 n_Pz_18_0 (by rw [a168]; exact k8_18_0) rfl⟩) | exact n_Ko_18_0 | omega | (rw [a168]; exact k8_18_0) | (rw [a171]; exact fe_18_0 (by omega)) | (have q := fe_18_0 (by omega); rw [a171, show h18_0 151 8 = h18_0 151 8 by omega, show h18_0 151 7 = h18_0 151 7 by omega]; exact q) |  (refine ⟨fun q => ?_, fun q => ?_⟩ <;> (rw [a168, k8_18_0] at q; omega)) | (refine ⟨fun q => ?_, fun q => ?_, fun q i i0 i7 il => ?_⟩ <;> first | (exfalso; rw [a168, k8_18_0] at q; omega) | (rw [a171] at il; rw [a172]; have z := fw_18_0 i i0 i7 il; omega)) | omega) (by first | exact (fun q9 => ⟨FewN_cg (fun j => a172 _) (a171 _) (fj_18_0 (by omega)).1, PmI_3 n_Pz_18_0 (by rw [a168]; exact k8_18_0) rfl⟩) | exact n_Ko_18_0 | omega | (rw [a168]; exact k8_18_0) | (rw [a171]; exact fe_18_0 (by omega)) | (have q := fe_18_0 (by omega); rw [a171, show h18_0 151 8 = h18_0 151 8 by omega, show h18_0 151 7 = h18_0 151 7 by omega]; exact q) |  (refine ⟨fun q => ?_, fun q => ?_⟩ <;> (rw [a168, k8_18_0] at q; omega)) | (refine ⟨fun q => ?_, fun q => ?_, fun q i i0 i7 il => ?_⟩ <;> first | (exfalso; rw [a168, k8_18_0] at q; omega) | (rw [a171] at il; rw [a172]; have z := fw_18_0 i i0 i7 il; omega)) | omega) (by first | exact (fun q9 => ⟨FewN_cg (fun j => a172 _) (a171 _) (fj_18_0 (by omega)).1, PmI_3 n_Pz_18_0 (by rw [a168]; exact k8_18_0) rfl⟩) | exact n_Ko_18_0 | omega | (rw [a168]; exact k8_18_0) | (rw [a171]; exact fe_18_0 (by omega)) | (have q := fe_18_0 (by omega); rw [a171, show h18_0 151 8 = h18_0 151 8 by omega, show h18_0 151 7 = h18_0 151 7 by omega]; exact q) |  (refine ⟨fun q => ?_, fun q => ?_⟩ <;> (rw [a168, k8_18_0] at q; omega)) | (refine ⟨fun q => ?_, fun q => ?_, fun q i i0 i7 il => ?_⟩ <;> first | (exfalso; rw [a168, k8_18_0] at q; omega) | (rw [a171] at il; rw [a172]; have z := fw_18_0 i i0 i7 il; omega)) | omega) (by first | exact (fun q9 => ⟨FewN_cg (fun j => a172 _) (a171 _) (fj_18_0 (by omega)).1, PmI_3 n_Pz_18_0 (by rw [a168]; exact k8_18_0) rfl⟩) | exact n_Ko_18_0 | omega | (rw [a168]; exact k8_18_0) | (rw [a171]; exact fe_18_0 (by omega)) | (have q := fe_18_0 (by omega); rw [a171, show h18_0 151 8 = h18_0 151 8 by omega, show h18_0 151 7 = h18_0 151 7 by omega]; exact q) |  (refine ⟨fun q => ?_, fun q => ?_⟩ <;> (rw [a168, k8_18_0] at q; omega)) | (refine ⟨fun q => ?_, fun q => ?_, fun q i i0 i7 il => ?_⟩ <;> first | (exfalso; rw [a168, k8_18_0] at q; omega) | (rw [a171] at il; rw [a172]; have z := fw_18_0 i i0 i7 il; omega)) | omega) (by first | exact (fun q9 => ⟨FewN_cg (fun j => a172 _) (a171 _) (fj_18_0 (by omega)).1, PmI_3 n_Pz_18_0 (by rw [a168]; exact k8_18_0) rfl⟩) | exact n_Ko_18_0 | omega | (rw [a168]; exact k8_18_0) | (rw [a171]; exact fe_18_0 (by omega)) | (have q := fe_18_0 (by omega); rw [a171, show h18_0 151 8 = h18_0 151 8 by omega, show h18_0 151 7 = h18_0 151 7 by omega]; exact q) |  (refine ⟨fun q => ?_, fun q => ?_⟩ <;> (rw [a168, k8_18_0] at q; omega)) | (refine ⟨fun q => ?_, fun q => ?_, fun q i i0 i7 il => ?_⟩ <;> first | (exfalso; rw [a168, k8_18_0] at q; omega) | (rw [a171] at il; rw [a172]; have z := fw_18_0 i i0 i7 il; omega)) | omega) (by first | exact (fun q9 => ⟨FewN_cg (fun j => a172 _) (a171 _) (fj_18_0 (by omega)).1, PmI_3 n_Pz_18_0 (by rw [a168]; exact k8_18_0) rfl⟩) | exact n_Ko_18_0 | omega | (rw [a168]; exact k8_18_0) | (rw [a171]; exact fe_18_0 (by omega)) | (have q := fe_18_0 (by omega); rw [a171, show h18_0 151 8 = h18_0 151 8 by omega, show h18_0 151 7 = h18_0 151 7 by omega]; exact q) |  (refine ⟨fun q => ?_, fun q => ?_⟩ <;> (rw [a168, k8_18_0] at q; omega)) | (refine ⟨fun q => ?_, fun q => ?_, fun q i i0 i7 il => ?_⟩ <;> first | (exfalso; rw [a168, k8_18_0] at q; omega) | (rw [a171] at il; rw [a172]; have z := fw_18_0 i i0 i7 il; omega)) | omega) n_Tok_18_0 n_Mq_18_0 n_Wd9_18_0)
      ·
        refine w_aload_n gz_188_22 rfl ?_
        refine v_getI (j := 8) gz_188_23 rfl is_151 rd_10 rfl (fun v4 ev4 pv4 qv4 => ?_)
        have zv4 := ev4.trans c151_8_18_0
        refine w_ifne (t := 83) gz_188_26 rfl (fun u5 => ?_) (fun u5 => ?_)
        ·
          refine w_aload_n gz_188_83 rfl ?_
          refine w_aload_n gz_188_84 rfl ?_
          refine v_getI (j := 27) gz_188_85 rfl is_151 rd_10 rfl (fun v6 ev6 pv6 qv6 => ?_)
          have zv6 := ev6.trans c151_27_18_0
          refine w_iconst gz_188_88 (by decide) ?_
          refine w_isub gz_188_89 ⟨by omega, by omega⟩ ?_
          have ce7 : h18_0 151 27 = v6 := ev6.symm
          refine w_inv (k := 0) (as := [(0, (v6 - 1))]) (r := []) (x := 151) (ls0 := [(2, 151), (0, (v6 - 1))]) gz_188_90 gm_187 rfl is_151 rd_10 rfl rfl rfl rfl rfl (c_Model_takeNumber9_f1 (d := d) (x1 := (v6 - 1)) (by omega) (by omega) (v4) (ev4.symm) (by omega) (by omega) n_Tok_18_0 (fun w8 w9 xp10 Tok_h18_0t11 => ?_))
          show wp l rho (d + 2) 188 93 [(2, 151), (0, x1), (0, p18_0), (0, p18_1), (9, 0)] [(0, 0)] h18_0 Q
          refine w_istore (ls' := [(2, 151), (0, x1), (0, p18_0), (0, p18_1), (0, 0)]) gz_188_93 gm_188 rfl rfl rfl ?_
          refine w_aload_n gz_188_95 rfl ?_
          refine v_getI (j := 8) gz_188_96 rfl is_151 rd_10 rfl (fun v12 ev12 pv12 qv12 => ?_)
          have zv12 := ev12.trans ev4.symm
          refine w_ifne (t := 106) gz_188_99 rfl (fun u13 => ?_) (fun u13 => by exfalso; omega)
          refine w_iconst gz_188_106 (by decide) ?_
          refine w_istore_n (ls' := [(2, 151), (0, x1), (0, p18_0), (0, 0), (0, 0)]) gz_188_107 gm_188 rfl rfl rfl ?_
          refine w_iload_n gz_188_108 rfl ?_
          refine w_ifeq (t := 166) gz_188_109 rfl (fun u14 => ?_) (fun u14 => by exfalso; omega)
          refine w_goto (t := 18) gz_188_166 rfl ?_
          have psJ : h18_0 151 7 = h18_0 151 7 := (rfl : h18_0 151 7 = h18_0 151 7)
          have npsJ : sm h18_0 = sm h := sm_eq (fun j => my_fr.at gh_18_0 is_153 rfl) (fun j => my_fr.at gh_18_0 is_154 rfl) (fun j => my_fr.at gh_18_0 is_155 rfl)
          have ce15 : h18_0 151 8 = v12 := ev12.symm
          have a168 : ∀ j : Int, h18_0 168 j = h18_0 168 j := fun _ => rfl
          have a171 : ∀ j : Int, h18_0 171 j = h18_0 171 j := fun _ => rfl
          have a172 : ∀ j : Int, h18_0 172 j = h18_0 172 j := fun _ => rfl
          refine w_weak (ls' := [(2, 151), (0, x1), (0, p18_0), (0, 0), (9, 0)]) (wk_e (wk_e (wk_e (wk_e (wk_9 wk_n))))) ?_
          exact ih_18_0 (p18_0) (0) (v12) h18_0 (gh_18_0) (by omega) (by omega) (by omega) (by omega) (ev6.symm.trans (by omega)) (ev12.symm.trans (by omega)) Tok_h18_0t11 n_Mq_18_0 n_Wd9_18_0 n_P6_18_0 n_Ko_18_0 n_Pz_18_0 (by rw [a168]; first | exact k168 | exact k8_18_0) (by omega) (by first | (rw [a171]; exact pq_18_0) | (rw [a171, k13]; exact pop8_0) | (rw [a171, k46]; omega) | omega) (by omega) (by omega) (by first | (intro i i0 i7 il; exfalso; rw [a171, k13] at il; omega) | (intro i i0 i7 il; rw [a172]; exact fw_18_0 i i0 i7 (by have z := a171 x1; omega)) | exact (fun i i0 i7 il => fw2 i i0 i7 (by omega)) | omega) (by omega) (by first | (intro q; exfalso; omega) | exact (fun _ => fmI_0 (by omega) (by have z := a171 x1; omega) (by omega)) | exact (fun _ => fmI_s (fi_18_0 (by omega)) rfl (by omega) (by omega) (by omega) nb (by omega) (by omega) (by have z := a171 x1; omega) e17 pm_18_0.1 pm_18_0.2 (by omega) (by omega)) | omega) (by first | (intro q; exfalso; omega) | exact (fun _ => fmI_3 (fi_18_0 (by omega)) rfl (by omega) (by omega) (by omega) ib (by omega)) | exact (fun _ => fmI_e (fi_18_0 (by omega)) rfl (by omega) (by omega) (by omega) nb (by omega) (by omega) (by omega) (by have z := a171 x1; omega)) | exact (fun _ => fmI_1 (fi_18_0 (by omega)) rfl (by first | exact Or.inl ⟨by omega, by omega⟩ | exact Or.inr (Or.inl ⟨by omega, by omega, by omega⟩))) | (intro q; have z := fe_18_0 (by omega); exact z) | omega) (by first | (intro q; exfalso; omega) | exact (fun _ => FjI_0 (by omega) (by have z := a171 x1; omega)) | exact (fun _ => FjI_s (n := vm) (by have z2 := b171 x1; rw [show vm = h18_0 171 x1 by omega]; exact fj_18_0 (by omega)) (fun j q => (a172 j).trans ((my_up_ne f36 (by omega)).trans (c172 j))) ((a172 _).trans k36) (by omega) (by omega) (by have z := a171 x1; omega) (by omega)) | omega) (by omega)
        ·
          refine w_aload_n gz_188_29 rfl ?_
          refine w_getX (v := 153) gz_188_30 is_151 rd_10 rfl (by decide) rfl ?_
          refine w_aload_n gz_188_33 rfl ?_
          refine v_getI (j := 7) gz_188_34 rfl is_151 rd_10 rfl (fun v17 ev17 pv17 qv17 => ?_)
          refine w_iald gz_188_37 is_153 rd_52 (by omega) (by omega) (fun v18 ev18 pv18 qv18 => ?_)
          have nz19 : (v18 ≠ 3 → sK (sm h) (h18_0 151 7) = v18) ∧ (v18 = 3 → sV (sm h) (h18_0 151 7) = 59 → sK (sm h) (h18_0 151 7) = 3) ∧ (v18 = 3 → sV (sm h) (h18_0 151 7) ≠ 59 → sK (sm h) (h18_0 151 7) = 4) := by
            have q := ev18.trans (my_fr.at (j := v17) gh_18_0 is_153 rfl)
            rw [show (v17 : Int) = h18_0 151 7 from by omega] at q
            exact sK_ld q
          refine w_iconst gz_188_38 (by decide) ?_
          refine w_icne (t := 83) gz_188_39 rfl (fun u20 => ?_) (fun u20 => ?_)
          ·
            refine w_aload_n gz_188_83 rfl ?_
            refine w_aload_n gz_188_84 rfl ?_
            refine v_getI (j := 27) gz_188_85 rfl is_151 rd_10 rfl (fun v21 ev21 pv21 qv21 => ?_)
            have zv21 := ev21.trans c151_27_18_0
            refine w_iconst gz_188_88 (by decide) ?_
            refine w_isub gz_188_89 ⟨by omega, by omega⟩ ?_
            have ce22 : h18_0 151 7 = v17 := ev17.symm
            have ce23 : h18_0 151 27 = v21 := ev21.symm
            refine w_inv (k := 0) (as := [(0, (v21 - 1))]) (r := []) (x := 151) (ls0 := [(2, 151), (0, (v21 - 1))]) gz_188_90 gm_187 rfl is_151 rd_10 rfl rfl rfl rfl rfl (c_Model_takeNumber9_f0 (d := d) (x1 := (v21 - 1)) (by omega) (by omega) (ev4.symm.trans (by omega)) n_Tok_18_0 (fun h24 frh24 w25 w26 xp27 xp28 Tok_h24t29 => ?_) (fun h30 v31 frh30 w32 w33 w34 w35 w36 xp37 xp38 xp39 xp40 xp41 xp42 xp43 xp44 Tok_h30t45 => ?_))
            ·
              have gh24 : my_fr [(10, 7), (10, 8), (67, -1), (70, -1), (71, -1)] h h24 := my_fr.tr gh_18_0 (frh24.mo rfl)
              have Mq_h24 : Mq h24 wv := Mq_ag (my_ag.fr frh24 rfl) n_Mq_18_0
              have Wd9_h24 : Wd9 h24 := Wd9_ag (my_ag.fr frh24 rfl) n_Wd9_18_0
              have P6_h24 : h24 167 6 = h 167 6 := P6_ag (my_ag.fr frh24 rfl) n_P6_18_0
              have Ko_h24 : Ko h h24 := Ko_ag (my_ag.fr frh24 rfl) n_Ko_18_0
              have Pz_h24 : Pz x1 h h24 := Pz_ag (my_ag.fr frh24 rfl) n_Pz_18_0
              show wp l rho (d + 2) 188 93 [(2, 151), (0, x1), (0, p18_0), (0, p18_1), (9, 0)] [(0, 0)] h24 Q
              have tE46 : sm h18_0 = sm h := sm_eq (fun j => my_fr.at gh_18_0 is_153 rfl) (fun j => my_fr.at gh_18_0 is_154 rfl) (fun j => my_fr.at gh_18_0 is_155 rfl)
              rw [tE46] at xp28
              refine w_istore (ls' := [(2, 151), (0, x1), (0, p18_0), (0, p18_1), (0, 0)]) gz_188_93 gm_188 rfl rfl rfl ?_
              refine w_aload_n gz_188_95 rfl ?_
              refine v_getI (j := 8) gz_188_96 rfl is_151 rd_10 rfl (fun v47 ev47 pv47 qv47 => ?_)
              have zv47 := ev47.trans (rfl : h24 151 8 = h24 151 8)
              refine w_ifne (t := 106) gz_188_99 rfl (fun u48 => ?_) (fun u48 => by exfalso; omega)
              refine w_iconst gz_188_106 (by decide) ?_
              refine w_istore_n (ls' := [(2, 151), (0, x1), (0, p18_0), (0, 0), (0, 0)]) gz_188_107 gm_188 rfl rfl rfl ?_
              refine w_iload_n gz_188_108 rfl ?_
              refine w_ifeq (t := 166) gz_188_109 rfl (fun u49 => ?_) (fun u49 => by exfalso; omega)
              refine w_goto (t := 18) gz_188_166 rfl ?_
              have psJ : h24 151 7 = (h18_0 151 7) := xp27
              have npsJ : sm h24 = sm h := sm_eq (fun j => my_fr.at gh24 is_153 rfl) (fun j => my_fr.at gh24 is_154 rfl) (fun j => my_fr.at gh24 is_155 rfl)
              have ce50 : h24 151 8 = v47 := ev47.symm
              have a168 : ∀ j : Int, h24 168 j = h18_0 168 j := fun j => ((my_fr.at frh24 is_168 rfl).trans (rfl : h18_0 168 j = h18_0 168 j))
              have a171 : ∀ j : Int, h24 171 j = h18_0 171 j := fun j => ((my_fr.at frh24 is_171 rfl).trans (rfl : h18_0 171 j = h18_0 171 j))
              have a172 : ∀ j : Int, h24 172 j = h18_0 172 j := fun j => ((my_fr.at frh24 is_172 rfl).trans (rfl : h18_0 172 j = h18_0 172 j))
              refine w_weak (ls' := [(2, 151), (0, x1), (0, p18_0), (0, 0), (9, 0)]) (wk_e (wk_e (wk_e (wk_e (wk_9 wk_n))))) ?_
              exact ih_18_0 (p18_0) (0) (v47) h24 (gh24) (by omega) (by omega) (by omega) (by omega) (((my_fr.at frh24 is_151 rfl).trans ev21.symm).trans (by omega)) (ev47.symm.trans (by omega)) Tok_h24t29 Mq_h24 Wd9_h24 P6_h24 Ko_h24 Pz_h24 (by rw [a168]; first | exact k168 | exact k8_18_0) (by omega) (by first | (rw [a171]; exact pq_18_0) | (rw [a171, k13]; exact pop8_0) | (rw [a171, k46]; omega) | omega) (by omega) (by omega) (by first | (intro i i0 i7 il; exfalso; rw [a171, k13] at il; omega) | (intro i i0 i7 il; rw [a172]; exact fw_18_0 i i0 i7 (by have z := a171 x1; omega)) | exact (fun i i0 i7 il => fw2 i i0 i7 (by omega)) | omega) (by omega) (by first | (intro q; exfalso; omega) | exact (fun _ => fmI_0 (by omega) (by have z := a171 x1; omega) (by omega)) | exact (fun _ => fmI_s (fi_18_0 (by omega)) rfl (by omega) (by omega) (by omega) nb (by omega) (by omega) (by have z := a171 x1; omega) e17 pm_18_0.1 pm_18_0.2 (by omega) (by omega)) | omega) (by first | (intro q; exfalso; omega) | exact (fun _ => fmI_3 (fi_18_0 (by omega)) rfl (by omega) (by omega) (by omega) ib (by omega)) | exact (fun _ => fmI_e (fi_18_0 (by omega)) rfl (by omega) (by omega) (by omega) nb (by omega) (by omega) (by omega) (by have z := a171 x1; omega)) | exact (fun _ => fmI_1 (fi_18_0 (by omega)) rfl (by first | exact Or.inl ⟨by omega, by omega⟩ | exact Or.inr (Or.inl ⟨by omega, by omega, by omega⟩))) | (intro q; have z := fe_18_0 (by omega); exact z) | omega) (by first | (intro q; exfalso; omega) | exact (fun _ => FjI_0 (by omega) (by have z := a171 x1; omega)) | exact (fun _ => FjI_s (n := vm) (by have z2 := b171 x1; rw [show vm = h18_0 171 x1 by omega]; exact fj_18_0 (by omega)) (fun j q => (a172 j).trans ((my_up_ne f36 (by omega)).trans (c172 j))) ((a172 _).trans k36) (by omega) (by omega) (by have z := a171 x1; omega) (by omega)) | omega) (by omega)
            ·
              have gh30 : my_fr [(10, 7), (10, 8), (67, -1), (70, -1), (71, -1)] h h30 := my_fr.tr gh_18_0 (frh30.mo rfl)
              have Mq_h30 : Mq h30 wv := Mq_ag (my_ag.fr frh30 rfl) n_Mq_18_0
              have Wd9_h30 : Wd9 h30 := Wd9_ag (my_ag.fr frh30 rfl) n_Wd9_18_0
              have P6_h30 : h30 167 6 = h 167 6 := P6_ag (my_ag.fr frh30 rfl) n_P6_18_0
              have Ko_h30 : Ko h h30 := Ko_ag (my_ag.fr frh30 rfl) n_Ko_18_0
              have Pz_h30 : Pz x1 h h30 := Pz_ag (my_ag.fr frh30 rfl) n_Pz_18_0
              show wp l rho (d + 2) 188 93 [(2, 151), (0, x1), (0, p18_0), (0, p18_1), (9, 0)] [(0, v31)] h30 Q
              have tE51 : sm h18_0 = sm h := sm_eq (fun j => my_fr.at gh_18_0 is_153 rfl) (fun j => my_fr.at gh_18_0 is_154 rfl) (fun j => my_fr.at gh_18_0 is_155 rfl)
              rw [tE51] at xp42
              rw [tE51] at xp43
              rw [tE51] at xp44
              refine w_istore (ls' := [(2, 151), (0, x1), (0, p18_0), (0, p18_1), (0, v31)]) gz_188_93 gm_188 rfl rfl rfl ?_
              refine w_aload_n gz_188_95 rfl ?_
              refine v_getI (j := 8) gz_188_96 rfl is_151 rd_10 rfl (fun v52 ev52 pv52 qv52 => ?_)
              have zv52 := ev52.trans w36
              refine w_ifne (t := 106) gz_188_99 rfl (fun u53 => by exfalso; omega) (fun u53 => ?_)
              refine w_iconst gz_188_102 (by decide) ?_
              refine w_goto (t := 107) gz_188_103 rfl ?_
              refine w_istore_n (ls' := [(2, 151), (0, x1), (0, p18_0), (0, 1), (0, v31)]) gz_188_107 gm_188 rfl rfl rfl ?_
              refine w_iload_n gz_188_108 rfl ?_
              refine w_ifeq (t := 166) gz_188_109 rfl (fun u54 => by exfalso; omega) (fun u54 => ?_)
              refine w_iload_n gz_188_112 rfl ?_
              refine w_iconst gz_188_113 (by decide) ?_
              refine w_iload gz_188_114 rfl ?_
              refine w_ishlX gz_188_116 (fun v55 ev55 pv55 qv55 => ?_)
              refine w_iorX gz_188_117 (fun v56 ev56 pv56 qv56 => ?_)
              have e17 : v56 = bor p18_0 (bsl 1 v31) := by subst_vars; rfl
              have pp : pop8 v56 = pop8 p18_0 + 1 ∧ pop8 p18_0 ≤ 7 ∧ 0 ≤ v56 ∧ v56 ≤ 255 := by first | (have yz : v31 = vz := (by omega); rw [yz] at e17; have z := pop8_add pm_18_0.1 pm_18_0.2 (v := vz) (by omega) (by omega) (by omega); rw [← e17] at z; exact z) | (exfalso; (try clear k0); (try clear k1); grind) | omega
              have nb : ¬ BtS p18_0 v31 := by first | (have yz : v31 = vz := (by omega); intro z; have z3 := z.2.2; rw [yz] at z3; omega) | (exfalso; omega)
              refine w_istore_n (ls' := [(2, 151), (0, x1), (0, v56), (0, 1), (0, v31)]) gz_188_118 gm_188 rfl rfl rfl ?_
              refine w_aload_n gz_188_119 rfl ?_
              refine w_getX (v := 172) gz_188_120 is_151 rd_10 rfl (by decide) rfl ?_
              refine w_bipush gz_188_123 (by decide) ?_
              refine w_iload_n gz_188_125 rfl ?_
              refine w_imul gz_188_126 ⟨by omega, by omega⟩ ?_
              refine w_aload_n gz_188_127 rfl ?_
              refine w_getX (v := 171) gz_188_128 is_151 rd_10 rfl (by decide) rfl ?_
              refine w_iload_n gz_188_131 rfl ?_
              refine w_iald gz_188_132 is_171 rd_70 (by omega) (by omega) (fun v59 ev59 pv59 qv59 => ?_)
              have b171 : ∀ j : Int, h30 171 j = h18_0 171 j := fun j => ((my_fr.at frh30 is_171 rfl).trans (rfl : h18_0 171 j = h18_0 171 j))
              have f7 : v59 ≤ 7 := by have q := b171 x1; omega
              obtain ⟨vm, em⟩ : ∃ vm : Int, vm = v59 := ⟨_, rfl⟩
              have c172 : ∀ j : Int, h30 172 j = h18_0 172 j := fun j => ((my_fr.at frh30 is_172 rfl).trans (rfl : h18_0 172 j = h18_0 172 j))
              refine w_iadd gz_188_133 ⟨by omega, by omega⟩ ?_
              refine w_iload gz_188_134 rfl ?_
              have hi60 : 0 ≤ v31 := by omega
              have hi61 : v31 ≤ 7 := by omega
              have hi62 : 0 ≤ ((8 * x1) + v59) := by omega
              have hi63 : ((8 * x1) + v59) ≤ 335 := by omega
              refine w_iast gz_188_136 is_172 rd_71 (by omega) (by omega) (by omega) (by omega) (fun h64 fh64 => ?_)
              have gh64 : my_fr [(10, 7), (10, 8), (67, -1), (70, -1), (71, -1)] h h64 := my_fr.up gh30 is_172 fh64 rfl
              have Mq_h64 : Mq h64 wv := Mq_v (a := 172) hwv (by decide) (by omega) fh64 Mq_h30
              have Wd9_h64 : Wd9 h64 := Wd9_ag (my_ag.up fh64 is_172 rfl) Wd9_h30
              have P6_h64 : h64 167 6 = h 167 6 := P6_ag (my_ag.up fh64 is_172 rfl) P6_h30
              have Ko_h64 : Ko h h64 := Ko_v (a := 172) hwv (by decide) (by omega) fh64 Ko_h30
              have Pz_h64 : Pz x1 h h64 := Pz_v (a := 172) hwv (by decide) (by omega) fh64 Pz_h30
              have Tok_h64 : Tok h64 := Tok_ag (my_ag.up fh64 is_172 rfl) Tok_h30t45
              have f36 := fh64
              have k36 : h64 172 (8 * x1 + vm) = v31 := by rw [show 8 * x1 + vm = _ from by rw [em]]; exact my_up_self fh64
              refine w_aload_n gz_188_137 rfl ?_
              refine w_getX (v := 171) gz_188_138 is_151 rd_10 rfl (by decide) rfl ?_
              refine w_iload_n gz_188_141 rfl ?_
              refine w_dup2 gz_188_142 rfl rfl ?_
              refine w_iald gz_188_143 is_171 rd_70 (by omega) (by omega) (fun v66 ev66 pv66 qv66 => ?_)
              have zv66 := ev66.trans ((my_up_role fh64 is_171 is_172 rfl).trans ev59.symm)
              have c171 : ∀ j : Int, h64 171 j = h18_0 171 j := fun j => ((my_up_role fh64 is_171 is_172 rfl).trans ((my_fr.at frh30 is_171 rfl).trans (rfl : h18_0 171 j = h18_0 171 j)))
              have f8 : v66 ≤ 7 := by have q := c171 x1; omega
              refine w_iconst gz_188_144 (by decide) ?_
              refine w_iadd gz_188_145 ⟨by omega, by omega⟩ ?_
              have hi67 : 0 ≤ (v66 + 1) := by omega
              have hi68 : (v66 + 1) ≤ 8 := by omega
              refine w_iast gz_188_146 is_171 rd_70 (by omega) (by omega) (by omega) (by omega) (fun h69 fh69 => ?_)
              have gh69 : my_fr [(10, 7), (10, 8), (67, -1), (70, -1), (71, -1)] h h69 := my_fr.up gh64 is_171 fh69 rfl
              have Mq_h69 : Mq h69 wv := Mq_u (a := 171) hwv (by decide) (by omega) fh69 Mq_h64
              have Wd9_h69 : Wd9 h69 := Wd9_ag (my_ag.up fh69 is_171 rfl) Wd9_h64
              have P6_h69 : h69 167 6 = h 167 6 := P6_ag (my_ag.up fh69 is_171 rfl) P6_h64
              have Ko_h69 : Ko h h69 := Ko_u (a := 171) hwv (by decide) (by omega) fh69 Ko_h64
              have Pz_h69 : Pz x1 h h69 := Pz_u (a := 171) hwv (by decide) (by omega) fh69 Pz_h64
              have Tok_h69 : Tok h69 := Tok_ag (my_ag.up fh69 is_171 rfl) Tok_h64
              have k46 := my_up_self fh69
              have z46 := b171 x1
              have z47 := c171 x1
              have e46 : h69 171 x1 = vm + 1 := by have z3 := c171 x1; have z2 := b171 x1; omega
              have d172 : ∀ j : Int, h69 172 j = h64 172 j := fun j => ((my_up_role fh69 is_172 is_171 rfl).trans (rfl : h64 172 j = h64 172 j))
              have fw2 : ∀ i : Int, 0 ≤ i → i ≤ 7 → i < vm + 1 → h69 172 (8 * x1 + i) < k151_27 := fun i i0 i7 il => by
                rw [d172]
                by_cases q : i = vm
                · rw [q, k36]; omega
                · rw [my_up_ne f36 (by omega), c172]; exact fw_18_0 i i0 i7 (by have z2 := b171 x1; omega)
              refine w_aload_n gz_188_147 rfl ?_
              refine w_getX (v := 153) gz_188_148 is_151 rd_10 rfl (by decide) rfl ?_
              refine w_aload_n gz_188_151 rfl ?_
              refine v_getI (j := 7) gz_188_152 rfl is_151 rd_10 rfl (fun v71 ev71 pv71 qv71 => ?_)
              have zv71 := ev71.trans ((my_up_role fh69 is_151 is_171 rfl).trans ((my_up_role fh64 is_151 is_172 rfl).trans (rfl : h30 151 7 = h30 151 7)))
              refine w_iald gz_188_155 is_153 rd_52 (by omega) (by omega) (fun v72 ev72 pv72 qv72 => ?_)
              have nz73a : h69 151 7 = (sN (sm h) (h18_0 151 7)) := ((my_up_role fh69 is_151 is_171 rfl).trans ((my_up_role fh64 is_151 is_172 rfl).trans xp42))
              have nz73 : (v72 ≠ 3 → sK (sm h) (sN (sm h) (h18_0 151 7)) = v72) ∧ (v72 = 3 → sV (sm h) (sN (sm h) (h18_0 151 7)) = 59 → sK (sm h) (sN (sm h) (h18_0 151 7)) = 3) ∧ (v72 = 3 → sV (sm h) (sN (sm h) (h18_0 151 7)) ≠ 59 → sK (sm h) (sN (sm h) (h18_0 151 7)) = 4) := by
                have q := ev72.trans (my_fr.at (j := v71) gh69 is_153 rfl)
                rw [show (v71 : Int) = (sN (sm h) (h18_0 151 7)) from by omega] at q
                exact sK_ld q
              refine w_iconst gz_188_156 (by decide) ?_
              refine w_icne (t := 164) gz_188_157 rfl (fun u74 => ?_) (fun u74 => ?_)
              ·
                refine w_iconst gz_188_164 (by decide) ?_
                refine w_istore_n (ls' := [(2, 151), (0, x1), (0, v56), (0, 0), (0, v31)]) gz_188_165 gm_188 rfl rfl rfl ?_
                refine w_goto (t := 18) gz_188_166 rfl ?_
                have psJ : h69 151 7 = (sN (sm h) (h18_0 151 7)) := ((my_up_role fh69 is_151 is_171 rfl).trans ((my_up_role fh64 is_151 is_172 rfl).trans xp42))
                have npsJ : sm h69 = sm h := sm_eq (fun j => my_fr.at gh69 is_153 rfl) (fun j => my_fr.at gh69 is_154 rfl) (fun j => my_fr.at gh69 is_155 rfl)
                have ce75 : h69 151 7 = v71 := ev71.symm
                have ce76 : h69 151 8 = v52 := ((my_up_role fh69 is_151 is_171 rfl).trans ((my_up_role fh64 is_151 is_172 rfl).trans ev52.symm))
                have a168 : ∀ j : Int, h69 168 j = h18_0 168 j := fun j => ((my_up_role fh69 is_168 is_171 rfl).trans ((my_up_role fh64 is_168 is_172 rfl).trans ((my_fr.at frh30 is_168 rfl).trans (rfl : h18_0 168 j = h18_0 168 j))))
                have a171 : ∀ j : Int, h69 171 j = h69 171 j := fun j => rfl
                have a172 : ∀ j : Int, h69 172 j = h64 172 j := fun j => ((my_up_role fh69 is_172 is_171 rfl).trans (rfl : h64 172 j = h64 172 j))
                refine w_weak (ls' := [(2, 151), (0, x1), (0, v56), (0, 0), (9, 0)]) (wk_e (wk_e (wk_e (wk_e (wk_9 wk_n))))) ?_
                exact ih_18_0 (v56) (0) (v52) h69 (gh69) (by omega) (by omega) (by omega) (by omega) (((my_up_role fh69 is_151 is_171 rfl).trans ((my_up_role fh64 is_151 is_172 rfl).trans ((my_fr.at frh30 is_151 rfl).trans ev21.symm))).trans (by omega)) (((my_up_role fh69 is_151 is_171 rfl).trans ((my_up_role fh64 is_151 is_172 rfl).trans ev52.symm)).trans (by omega)) Tok_h69 Mq_h69 Wd9_h69 P6_h69 Ko_h69 Pz_h69 (by rw [a168]; first | exact k168 | exact k8_18_0) (by omega) (by first | (rw [a171]; exact pq_18_0) | (rw [a171, k13]; exact pop8_0) | (rw [a171, k46]; omega) | omega) (by omega) (by omega) (by first | (intro i i0 i7 il; exfalso; rw [a171, k13] at il; omega) | (intro i i0 i7 il; rw [a172]; exact fw_18_0 i i0 i7 (by have z := a171 x1; omega)) | exact (fun i i0 i7 il => fw2 i i0 i7 (by omega)) | omega) (by omega) (by first | (intro q; exfalso; omega) | exact (fun _ => fmI_0 (by omega) (by have z := a171 x1; omega) (by omega)) | exact (fun _ => fmI_s (fi_18_0 (by omega)) rfl (by omega) (by omega) (by omega) nb (by omega) (by omega) (by have z := a171 x1; omega) e17 pm_18_0.1 pm_18_0.2 (by omega) (by omega)) | omega) (by first | (intro q; exfalso; omega) | exact (fun _ => fmI_3 (fi_18_0 (by omega)) rfl (by omega) (by omega) (by omega) ib (by omega)) | exact (fun _ => fmI_e (fi_18_0 (by omega)) rfl (by omega) (by omega) (by omega) nb (by omega) (by omega) (by omega) (by have z := a171 x1; omega)) | exact (fun _ => fmI_1 (fi_18_0 (by omega)) rfl (by first | exact Or.inl ⟨by omega, by omega⟩ | exact Or.inr (Or.inl ⟨by omega, by omega, by omega⟩))) | (intro q; have z := fe_18_0 (by omega); exact z) | omega) (by first | (intro q; exfalso; omega) | exact (fun _ => FjI_0 (by omega) (by have z := a171 x1; omega)) | exact (fun _ => FjI_s (n := vm) (by have z2 := b171 x1; rw [show vm = h18_0 171 x1 by omega]; exact fj_18_0 (by omega)) (fun j q => (a172 j).trans ((my_up_ne f36 (by omega)).trans (c172 j))) ((a172 _).trans k36) (by omega) (by omega) (by have z := a171 x1; omega) (by omega)) | omega) (by omega)
              ·
                refine w_iconst gz_188_160 (by decide) ?_
                refine w_goto (t := 165) gz_188_161 rfl ?_
                refine w_istore_n (ls' := [(2, 151), (0, x1), (0, v56), (0, 1), (0, v31)]) gz_188_165 gm_188 rfl rfl rfl ?_
                refine w_goto (t := 18) gz_188_166 rfl ?_
                have psJ : h69 151 7 = (sN (sm h) (h18_0 151 7)) := ((my_up_role fh69 is_151 is_171 rfl).trans ((my_up_role fh64 is_151 is_172 rfl).trans xp42))
                have npsJ : sm h69 = sm h := sm_eq (fun j => my_fr.at gh69 is_153 rfl) (fun j => my_fr.at gh69 is_154 rfl) (fun j => my_fr.at gh69 is_155 rfl)
                have ce77 : h69 151 7 = v71 := ev71.symm
                have ce78 : h69 151 8 = v52 := ((my_up_role fh69 is_151 is_171 rfl).trans ((my_up_role fh64 is_151 is_172 rfl).trans ev52.symm))
                have a168 : ∀ j : Int, h69 168 j = h18_0 168 j := fun j => ((my_up_role fh69 is_168 is_171 rfl).trans ((my_up_role fh64 is_168 is_172 rfl).trans ((my_fr.at frh30 is_168 rfl).trans (rfl : h18_0 168 j = h18_0 168 j))))
                have a171 : ∀ j : Int, h69 171 j = h69 171 j := fun j => rfl
                have a172 : ∀ j : Int, h69 172 j = h64 172 j := fun j => ((my_up_role fh69 is_172 is_171 rfl).trans (rfl : h64 172 j = h64 172 j))
                refine w_weak (ls' := [(2, 151), (0, x1), (0, v56), (0, 1), (9, 0)]) (wk_e (wk_e (wk_e (wk_e (wk_9 wk_n))))) ?_
                exact ih_18_0 (v56) (1) (v52) h69 (gh69) (by omega) (by omega) (by omega) (by omega) (((my_up_role fh69 is_151 is_171 rfl).trans ((my_up_role fh64 is_151 is_172 rfl).trans ((my_fr.at frh30 is_151 rfl).trans ev21.symm))).trans (by omega)) (((my_up_role fh69 is_151 is_171 rfl).trans ((my_up_role fh64 is_151 is_172 rfl).trans ev52.symm)).trans (by omega)) Tok_h69 Mq_h69 Wd9_h69 P6_h69 Ko_h69 Pz_h69 (by rw [a168]; first | exact k168 | exact k8_18_0) (by omega) (by first | (rw [a171]; exact pq_18_0) | (rw [a171, k13]; exact pop8_0) | (rw [a171, k46]; omega) | omega) (by omega) (by omega) (by first | (intro i i0 i7 il; exfalso; rw [a171, k13] at il; omega) | (intro i i0 i7 il; rw [a172]; exact fw_18_0 i i0 i7 (by have z := a171 x1; omega)) | exact (fun i i0 i7 il => fw2 i i0 i7 (by omega)) | omega) (by omega) (by first | (intro q; exfalso; omega) | exact (fun _ => fmI_0 (by omega) (by have z := a171 x1; omega) (by omega)) | exact (fun _ => fmI_s (fi_18_0 (by omega)) rfl (by omega) (by omega) (by omega) nb (by omega) (by omega) (by have z := a171 x1; omega) e17 pm_18_0.1 pm_18_0.2 (by omega) (by omega)) | omega) (by first | (intro q; exfalso; omega) | exact (fun _ => fmI_3 (fi_18_0 (by omega)) rfl (by omega) (by omega) (by omega) ib (by omega)) | exact (fun _ => fmI_e (fi_18_0 (by omega)) rfl (by omega) (by omega) (by omega) nb (by omega) (by omega) (by omega) (by have z := a171 x1; omega)) | exact (fun _ => fmI_1 (fi_18_0 (by omega)) rfl (by first | exact Or.inl ⟨by omega, by omega⟩ | exact Or.inr (Or.inl ⟨by omega, by omega, by omega⟩))) | (intro q; have z := fe_18_0 (by omega); exact z) | omega) (by first | (intro q; exfalso; omega) | exact (fun _ => FjI_0 (by omega) (by have z := a171 x1; omega)) | exact (fun _ => FjI_s (n := vm) (by have z2 := b171 x1; rw [show vm = h18_0 171 x1 by omega]; exact fj_18_0 (by omega)) (fun j q => (a172 j).trans ((my_up_ne f36 (by omega)).trans (c172 j))) ((a172 _).trans k36) (by omega) (by omega) (by have z := a171 x1; omega) (by omega)) | omega) (by omega)
          ·
            refine w_aload_n gz_188_42 rfl ?_
            refine w_getX (v := 155) gz_188_43 is_151 rd_10 rfl (by decide) rfl ?_
            refine w_aload_n gz_188_46 rfl ?_
            refine v_getI (j := 7) gz_188_47 rfl is_151 rd_10 rfl (fun v80 ev80 pv80 qv80 => ?_)
            have zv80 := ev80.trans ev17.symm
            refine w_lald gz_188_50 is_155 rd_54 (by omega) (by omega) (fun v81 ev81 pv81 => ?_)
            have nz82 : v81 = sV (sm h) (h18_0 151 7) := by
              have q := ev81.trans (my_fr.at (j := v80) gh_18_0 is_155 rfl)
              rw [show (v80 : Int) = h18_0 151 7 from by omega] at q
              exact q
            refine w_aload_n gz_188_51 rfl ?_
            refine v_getI (j := 27) gz_188_52 rfl is_151 rd_10 rfl (fun v83 ev83 pv83 qv83 => ?_)
            have zv83 := ev83.trans c151_27_18_0
            refine w_i2l gz_188_55 ?_
            refine w_lcmpE gz_188_56 (fun v84 pv84 qv84 xv84 => ?_)
            refine w_ifge (t := 83) gz_188_57 rfl (fun u85 => ?_) (fun u85 => ?_)
            ·
              refine w_aload_n gz_188_83 rfl ?_
              refine w_aload_n gz_188_84 rfl ?_
              refine v_getI (j := 27) gz_188_85 rfl is_151 rd_10 rfl (fun v86 ev86 pv86 qv86 => ?_)
              have zv86 := ev86.trans ev83.symm
              refine w_iconst gz_188_88 (by decide) ?_
              refine w_isub gz_188_89 ⟨by omega, by omega⟩ ?_
              have ce87 : h18_0 151 7 = v80 := ev80.symm
              have ce88 : h18_0 151 27 = v86 := ev86.symm
              refine w_inv (k := 0) (as := [(0, (v86 - 1))]) (r := []) (x := 151) (ls0 := [(2, 151), (0, (v86 - 1))]) gz_188_90 gm_187 rfl is_151 rd_10 rfl rfl rfl rfl rfl (c_Model_takeNumber9_f0 (d := d) (x1 := (v86 - 1)) (by omega) (by omega) (ev4.symm.trans (by omega)) n_Tok_18_0 (fun h89 frh89 w90 w91 xp92 xp93 Tok_h89t94 => ?_) (fun h95 v96 frh95 w97 w98 w99 w100 w101 xp102 xp103 xp104 xp105 xp106 xp107 xp108 xp109 Tok_h95t110 => ?_))
              ·
                have gh89 : my_fr [(10, 7), (10, 8), (67, -1), (70, -1), (71, -1)] h h89 := my_fr.tr gh_18_0 (frh89.mo rfl)
                have Mq_h89 : Mq h89 wv := Mq_ag (my_ag.fr frh89 rfl) n_Mq_18_0
                have Wd9_h89 : Wd9 h89 := Wd9_ag (my_ag.fr frh89 rfl) n_Wd9_18_0
                have P6_h89 : h89 167 6 = h 167 6 := P6_ag (my_ag.fr frh89 rfl) n_P6_18_0
                have Ko_h89 : Ko h h89 := Ko_ag (my_ag.fr frh89 rfl) n_Ko_18_0
                have Pz_h89 : Pz x1 h h89 := Pz_ag (my_ag.fr frh89 rfl) n_Pz_18_0
                show wp l rho (d + 2) 188 93 [(2, 151), (0, x1), (0, p18_0), (0, p18_1), (9, 0)] [(0, 0)] h89 Q
                have tE111 : sm h18_0 = sm h := sm_eq (fun j => my_fr.at gh_18_0 is_153 rfl) (fun j => my_fr.at gh_18_0 is_154 rfl) (fun j => my_fr.at gh_18_0 is_155 rfl)
                rw [tE111] at xp93
                refine w_istore (ls' := [(2, 151), (0, x1), (0, p18_0), (0, p18_1), (0, 0)]) gz_188_93 gm_188 rfl rfl rfl ?_
                refine w_aload_n gz_188_95 rfl ?_
                refine v_getI (j := 8) gz_188_96 rfl is_151 rd_10 rfl (fun v112 ev112 pv112 qv112 => ?_)
                have zv112 := ev112.trans (rfl : h89 151 8 = h89 151 8)
                refine w_ifne (t := 106) gz_188_99 rfl (fun u113 => ?_) (fun u113 => by exfalso; omega)
                refine w_iconst gz_188_106 (by decide) ?_
                refine w_istore_n (ls' := [(2, 151), (0, x1), (0, p18_0), (0, 0), (0, 0)]) gz_188_107 gm_188 rfl rfl rfl ?_
                refine w_iload_n gz_188_108 rfl ?_
                refine w_ifeq (t := 166) gz_188_109 rfl (fun u114 => ?_) (fun u114 => by exfalso; omega)
                refine w_goto (t := 18) gz_188_166 rfl ?_
                have psJ : h89 151 7 = (h18_0 151 7) := xp92
                have npsJ : sm h89 = sm h := sm_eq (fun j => my_fr.at gh89 is_153 rfl) (fun j => my_fr.at gh89 is_154 rfl) (fun j => my_fr.at gh89 is_155 rfl)
                have ce115 : h89 151 8 = v112 := ev112.symm
                have a168 : ∀ j : Int, h89 168 j = h18_0 168 j := fun j => ((my_fr.at frh89 is_168 rfl).trans (rfl : h18_0 168 j = h18_0 168 j))
                have a171 : ∀ j : Int, h89 171 j = h18_0 171 j := fun j => ((my_fr.at frh89 is_171 rfl).trans (rfl : h18_0 171 j = h18_0 171 j))
                have a172 : ∀ j : Int, h89 172 j = h18_0 172 j := fun j => ((my_fr.at frh89 is_172 rfl).trans (rfl : h18_0 172 j = h18_0 172 j))
                refine w_weak (ls' := [(2, 151), (0, x1), (0, p18_0), (0, 0), (9, 0)]) (wk_e (wk_e (wk_e (wk_e (wk_9 wk_n))))) ?_
                exact ih_18_0 (p18_0) (0) (v112) h89 (gh89) (by omega) (by omega) (by omega) (by omega) (((my_fr.at frh89 is_151 rfl).trans ev86.symm).trans (by omega)) (ev112.symm.trans (by omega)) Tok_h89t94 Mq_h89 Wd9_h89 P6_h89 Ko_h89 Pz_h89 (by rw [a168]; first | exact k168 | exact k8_18_0) (by omega) (by first | (rw [a171]; exact pq_18_0) | (rw [a171, k13]; exact pop8_0) | (rw [a171, k46]; omega) | omega) (by omega) (by omega) (by first | (intro i i0 i7 il; exfalso; rw [a171, k13] at il; omega) | (intro i i0 i7 il; rw [a172]; exact fw_18_0 i i0 i7 (by have z := a171 x1; omega)) | exact (fun i i0 i7 il => fw2 i i0 i7 (by omega)) | omega) (by omega) (by first | (intro q; exfalso; omega) | exact (fun _ => fmI_0 (by omega) (by have z := a171 x1; omega) (by omega)) | exact (fun _ => fmI_s (fi_18_0 (by omega)) rfl (by omega) (by omega) (by omega) nb (by omega) (by omega) (by have z := a171 x1; omega) e17 pm_18_0.1 pm_18_0.2 (by omega) (by omega)) | omega) (by first | (intro q; exfalso; omega) | exact (fun _ => fmI_3 (fi_18_0 (by omega)) rfl (by omega) (by omega) (by omega) ib (by omega)) | exact (fun _ => fmI_e (fi_18_0 (by omega)) rfl (by omega) (by omega) (by omega) nb (by omega) (by omega) (by omega) (by have z := a171 x1; omega)) | exact (fun _ => fmI_1 (fi_18_0 (by omega)) rfl (by first | exact Or.inl ⟨by omega, by omega⟩ | exact Or.inr (Or.inl ⟨by omega, by omega, by omega⟩))) | (intro q; have z := fe_18_0 (by omega); exact z) | omega) (by first | (intro q; exfalso; omega) | exact (fun _ => FjI_0 (by omega) (by have z := a171 x1; omega)) | exact (fun _ => FjI_s (n := vm) (by have z2 := b171 x1; rw [show vm = h18_0 171 x1 by omega]; exact fj_18_0 (by omega)) (fun j q => (a172 j).trans ((my_up_ne f36 (by omega)).trans (c172 j))) ((a172 _).trans k36) (by omega) (by omega) (by have z := a171 x1; omega) (by omega)) | omega) (by omega)
              ·
                have gh95 : my_fr [(10, 7), (10, 8), (67, -1), (70, -1), (71, -1)] h h95 := my_fr.tr gh_18_0 (frh95.mo rfl)
                have Mq_h95 : Mq h95 wv := Mq_ag (my_ag.fr frh95 rfl) n_Mq_18_0
                have Wd9_h95 : Wd9 h95 := Wd9_ag (my_ag.fr frh95 rfl) n_Wd9_18_0
                have P6_h95 : h95 167 6 = h 167 6 := P6_ag (my_ag.fr frh95 rfl) n_P6_18_0
                have Ko_h95 : Ko h h95 := Ko_ag (my_ag.fr frh95 rfl) n_Ko_18_0
                have Pz_h95 : Pz x1 h h95 := Pz_ag (my_ag.fr frh95 rfl) n_Pz_18_0
                show wp l rho (d + 2) 188 93 [(2, 151), (0, x1), (0, p18_0), (0, p18_1), (9, 0)] [(0, v96)] h95 Q
                have tE116 : sm h18_0 = sm h := sm_eq (fun j => my_fr.at gh_18_0 is_153 rfl) (fun j => my_fr.at gh_18_0 is_154 rfl) (fun j => my_fr.at gh_18_0 is_155 rfl)
                rw [tE116] at xp107
                rw [tE116] at xp108
                rw [tE116] at xp109
                refine w_istore (ls' := [(2, 151), (0, x1), (0, p18_0), (0, p18_1), (0, v96)]) gz_188_93 gm_188 rfl rfl rfl ?_
                refine w_aload_n gz_188_95 rfl ?_
                refine v_getI (j := 8) gz_188_96 rfl is_151 rd_10 rfl (fun v117 ev117 pv117 qv117 => ?_)
                have zv117 := ev117.trans w101
                refine w_ifne (t := 106) gz_188_99 rfl (fun u118 => by exfalso; omega) (fun u118 => ?_)
                refine w_iconst gz_188_102 (by decide) ?_
                refine w_goto (t := 107) gz_188_103 rfl ?_
                refine w_istore_n (ls' := [(2, 151), (0, x1), (0, p18_0), (0, 1), (0, v96)]) gz_188_107 gm_188 rfl rfl rfl ?_
                refine w_iload_n gz_188_108 rfl ?_
                refine w_ifeq (t := 166) gz_188_109 rfl (fun u119 => by exfalso; omega) (fun u119 => ?_)
                refine w_iload_n gz_188_112 rfl ?_
                refine w_iconst gz_188_113 (by decide) ?_
                refine w_iload gz_188_114 rfl ?_
                refine w_ishlX gz_188_116 (fun v120 ev120 pv120 qv120 => ?_)
                refine w_iorX gz_188_117 (fun v121 ev121 pv121 qv121 => ?_)
                have e17 : v121 = bor p18_0 (bsl 1 v96) := by subst_vars; rfl
                have pp : pop8 v121 = pop8 p18_0 + 1 ∧ pop8 p18_0 ≤ 7 ∧ 0 ≤ v121 ∧ v121 ≤ 255 := by first | (have yz : v96 = vz := (by omega); rw [yz] at e17; have z := pop8_add pm_18_0.1 pm_18_0.2 (v := vz) (by omega) (by omega) (by omega); rw [← e17] at z; exact z) | (exfalso; (try clear k0); (try clear k1); grind) | omega
                have nb : ¬ BtS p18_0 v96 := by first | (have yz : v96 = vz := (by omega); intro z; have z3 := z.2.2; rw [yz] at z3; omega) | (exfalso; omega)
                refine w_istore_n (ls' := [(2, 151), (0, x1), (0, v121), (0, 1), (0, v96)]) gz_188_118 gm_188 rfl rfl rfl ?_
                refine w_aload_n gz_188_119 rfl ?_
                refine w_getX (v := 172) gz_188_120 is_151 rd_10 rfl (by decide) rfl ?_
                refine w_bipush gz_188_123 (by decide) ?_
                refine w_iload_n gz_188_125 rfl ?_
                refine w_imul gz_188_126 ⟨by omega, by omega⟩ ?_
                refine w_aload_n gz_188_127 rfl ?_
                refine w_getX (v := 171) gz_188_128 is_151 rd_10 rfl (by decide) rfl ?_
                refine w_iload_n gz_188_131 rfl ?_
                refine w_iald gz_188_132 is_171 rd_70 (by omega) (by omega) (fun v124 ev124 pv124 qv124 => ?_)
                have b171 : ∀ j : Int, h95 171 j = h18_0 171 j := fun j => ((my_fr.at frh95 is_171 rfl).trans (rfl : h18_0 171 j = h18_0 171 j))
                have f7 : v124 ≤ 7 := by have q := b171 x1; omega
                obtain ⟨vm, em⟩ : ∃ vm : Int, vm = v124 := ⟨_, rfl⟩
                have c172 : ∀ j : Int, h95 172 j = h18_0 172 j := fun j => ((my_fr.at frh95 is_172 rfl).trans (rfl : h18_0 172 j = h18_0 172 j))
                refine w_iadd gz_188_133 ⟨by omega, by omega⟩ ?_
                refine w_iload gz_188_134 rfl ?_
                have hi125 : 0 ≤ v96 := by omega
                have hi126 : v96 ≤ 7 := by omega
                have hi127 : 0 ≤ ((8 * x1) + v124) := by omega
                have hi128 : ((8 * x1) + v124) ≤ 335 := by omega
                refine w_iast gz_188_136 is_172 rd_71 (by omega) (by omega) (by omega) (by omega) (fun h129 fh129 => ?_)
                have gh129 : my_fr [(10, 7), (10, 8), (67, -1), (70, -1), (71, -1)] h h129 := my_fr.up gh95 is_172 fh129 rfl
                have Mq_h129 : Mq h129 wv := Mq_v (a := 172) hwv (by decide) (by omega) fh129 Mq_h95
                have Wd9_h129 : Wd9 h129 := Wd9_ag (my_ag.up fh129 is_172 rfl) Wd9_h95
                have P6_h129 : h129 167 6 = h 167 6 := P6_ag (my_ag.up fh129 is_172 rfl) P6_h95
                have Ko_h129 : Ko h h129 := Ko_v (a := 172) hwv (by decide) (by omega) fh129 Ko_h95
                have Pz_h129 : Pz x1 h h129 := Pz_v (a := 172) hwv (by decide) (by omega) fh129 Pz_h95
                have Tok_h129 : Tok h129 := Tok_ag (my_ag.up fh129 is_172 rfl) Tok_h95t110
                have f36 := fh129
                have k36 : h129 172 (8 * x1 + vm) = v96 := by rw [show 8 * x1 + vm = _ from by rw [em]]; exact my_up_self fh129
                refine w_aload_n gz_188_137 rfl ?_
                refine w_getX (v := 171) gz_188_138 is_151 rd_10 rfl (by decide) rfl ?_
                refine w_iload_n gz_188_141 rfl ?_
                refine w_dup2 gz_188_142 rfl rfl ?_
                refine w_iald gz_188_143 is_171 rd_70 (by omega) (by omega) (fun v131 ev131 pv131 qv131 => ?_)
                have zv131 := ev131.trans ((my_up_role fh129 is_171 is_172 rfl).trans ev124.symm)
                have c171 : ∀ j : Int, h129 171 j = h18_0 171 j := fun j => ((my_up_role fh129 is_171 is_172 rfl).trans ((my_fr.at frh95 is_171 rfl).trans (rfl : h18_0 171 j = h18_0 171 j)))
                have f8 : v131 ≤ 7 := by have q := c171 x1; omega
                refine w_iconst gz_188_144 (by decide) ?_
                refine w_iadd gz_188_145 ⟨by omega, by omega⟩ ?_
                have hi132 : 0 ≤ (v131 + 1) := by omega
                have hi133 : (v131 + 1) ≤ 8 := by omega
                refine w_iast gz_188_146 is_171 rd_70 (by omega) (by omega) (by omega) (by omega) (fun h134 fh134 => ?_)
                have gh134 : my_fr [(10, 7), (10, 8), (67, -1), (70, -1), (71, -1)] h h134 := my_fr.up gh129 is_171 fh134 rfl
                have Mq_h134 : Mq h134 wv := Mq_u (a := 171) hwv (by decide) (by omega) fh134 Mq_h129
                have Wd9_h134 : Wd9 h134 := Wd9_ag (my_ag.up fh134 is_171 rfl) Wd9_h129
                have P6_h134 : h134 167 6 = h 167 6 := P6_ag (my_ag.up fh134 is_171 rfl) P6_h129
                have Ko_h134 : Ko h h134 := Ko_u (a := 171) hwv (by decide) (by omega) fh134 Ko_h129
                have Pz_h134 : Pz x1 h h134 := Pz_u (a := 171) hwv (by decide) (by omega) fh134 Pz_h129
                have Tok_h134 : Tok h134 := Tok_ag (my_ag.up fh134 is_171 rfl) Tok_h129
                have k46 := my_up_self fh134
                have z46 := b171 x1
                have z47 := c171 x1
                have e46 : h134 171 x1 = vm + 1 := by have z3 := c171 x1; have z2 := b171 x1; omega
                have d172 : ∀ j : Int, h134 172 j = h129 172 j := fun j => ((my_up_role fh134 is_172 is_171 rfl).trans (rfl : h129 172 j = h129 172 j))
                have fw2 : ∀ i : Int, 0 ≤ i → i ≤ 7 → i < vm + 1 → h134 172 (8 * x1 + i) < k151_27 := fun i i0 i7 il => by
                  rw [d172]
                  by_cases q : i = vm
                  · rw [q, k36]; omega
                  · rw [my_up_ne f36 (by omega), c172]; exact fw_18_0 i i0 i7 (by have z2 := b171 x1; omega)
                refine w_aload_n gz_188_147 rfl ?_
                refine w_getX (v := 153) gz_188_148 is_151 rd_10 rfl (by decide) rfl ?_
                refine w_aload_n gz_188_151 rfl ?_
                refine v_getI (j := 7) gz_188_152 rfl is_151 rd_10 rfl (fun v136 ev136 pv136 qv136 => ?_)
                have zv136 := ev136.trans ((my_up_role fh134 is_151 is_171 rfl).trans ((my_up_role fh129 is_151 is_172 rfl).trans (rfl : h95 151 7 = h95 151 7)))
                refine w_iald gz_188_155 is_153 rd_52 (by omega) (by omega) (fun v137 ev137 pv137 qv137 => ?_)
                have nz138a : h134 151 7 = (sN (sm h) (h18_0 151 7)) := ((my_up_role fh134 is_151 is_171 rfl).trans ((my_up_role fh129 is_151 is_172 rfl).trans xp107))
                have nz138 : (v137 ≠ 3 → sK (sm h) (sN (sm h) (h18_0 151 7)) = v137) ∧ (v137 = 3 → sV (sm h) (sN (sm h) (h18_0 151 7)) = 59 → sK (sm h) (sN (sm h) (h18_0 151 7)) = 3) ∧ (v137 = 3 → sV (sm h) (sN (sm h) (h18_0 151 7)) ≠ 59 → sK (sm h) (sN (sm h) (h18_0 151 7)) = 4) := by
                  have q := ev137.trans (my_fr.at (j := v136) gh134 is_153 rfl)
                  rw [show (v136 : Int) = (sN (sm h) (h18_0 151 7)) from by omega] at q
                  exact sK_ld q
                refine w_iconst gz_188_156 (by decide) ?_
                refine w_icne (t := 164) gz_188_157 rfl (fun u139 => ?_) (fun u139 => ?_)
                ·
                  refine w_iconst gz_188_164 (by decide) ?_
                  refine w_istore_n (ls' := [(2, 151), (0, x1), (0, v121), (0, 0), (0, v96)]) gz_188_165 gm_188 rfl rfl rfl ?_
                  refine w_goto (t := 18) gz_188_166 rfl ?_
                  have psJ : h134 151 7 = (sN (sm h) (h18_0 151 7)) := ((my_up_role fh134 is_151 is_171 rfl).trans ((my_up_role fh129 is_151 is_172 rfl).trans xp107))
                  have npsJ : sm h134 = sm h := sm_eq (fun j => my_fr.at gh134 is_153 rfl) (fun j => my_fr.at gh134 is_154 rfl) (fun j => my_fr.at gh134 is_155 rfl)
                  have ce140 : h134 151 7 = v136 := ev136.symm
                  have ce141 : h134 151 8 = v117 := ((my_up_role fh134 is_151 is_171 rfl).trans ((my_up_role fh129 is_151 is_172 rfl).trans ev117.symm))
                  have a168 : ∀ j : Int, h134 168 j = h18_0 168 j := fun j => ((my_up_role fh134 is_168 is_171 rfl).trans ((my_up_role fh129 is_168 is_172 rfl).trans ((my_fr.at frh95 is_168 rfl).trans (rfl : h18_0 168 j = h18_0 168 j))))
                  have a171 : ∀ j : Int, h134 171 j = h134 171 j := fun j => rfl
                  have a172 : ∀ j : Int, h134 172 j = h129 172 j := fun j => ((my_up_role fh134 is_172 is_171 rfl).trans (rfl : h129 172 j = h129 172 j))
                  refine w_weak (ls' := [(2, 151), (0, x1), (0, v121), (0, 0), (9, 0)]) (wk_e (wk_e (wk_e (wk_e (wk_9 wk_n))))) ?_
                  exact ih_18_0 (v121) (0) (v117) h134 (gh134) (by omega) (by omega) (by omega) (by omega) (((my_up_role fh134 is_151 is_171 rfl).trans ((my_up_role fh129 is_151 is_172 rfl).trans ((my_fr.at frh95 is_151 rfl).trans ev86.symm))).trans (by omega)) (((my_up_role fh134 is_151 is_171 rfl).trans ((my_up_role fh129 is_151 is_172 rfl).trans ev117.symm)).trans (by omega)) Tok_h134 Mq_h134 Wd9_h134 P6_h134 Ko_h134 Pz_h134 (by rw [a168]; first | exact k168 | exact k8_18_0) (by omega) (by first | (rw [a171]; exact pq_18_0) | (rw [a171, k13]; exact pop8_0) | (rw [a171, k46]; omega) | omega) (by omega) (by omega) (by first | (intro i i0 i7 il; exfalso; rw [a171, k13] at il; omega) | (intro i i0 i7 il; rw [a172]; exact fw_18_0 i i0 i7 (by have z := a171 x1; omega)) | exact (fun i i0 i7 il => fw2 i i0 i7 (by omega)) | omega) (by omega) (by first | (intro q; exfalso; omega) | exact (fun _ => fmI_0 (by omega) (by have z := a171 x1; omega) (by omega)) | exact (fun _ => fmI_s (fi_18_0 (by omega)) rfl (by omega) (by omega) (by omega) nb (by omega) (by omega) (by have z := a171 x1; omega) e17 pm_18_0.1 pm_18_0.2 (by omega) (by omega)) | omega) (by first | (intro q; exfalso; omega) | exact (fun _ => fmI_3 (fi_18_0 (by omega)) rfl (by omega) (by omega) (by omega) ib (by omega)) | exact (fun _ => fmI_e (fi_18_0 (by omega)) rfl (by omega) (by omega) (by omega) nb (by omega) (by omega) (by omega) (by have z := a171 x1; omega)) | exact (fun _ => fmI_1 (fi_18_0 (by omega)) rfl (by first | exact Or.inl ⟨by omega, by omega⟩ | exact Or.inr (Or.inl ⟨by omega, by omega, by omega⟩))) | (intro q; have z := fe_18_0 (by omega); exact z) | omega) (by first | (intro q; exfalso; omega) | exact (fun _ => FjI_0 (by omega) (by have z := a171 x1; omega)) | exact (fun _ => FjI_s (n := vm) (by have z2 := b171 x1; rw [show vm = h18_0 171 x1 by omega]; exact fj_18_0 (by omega)) (fun j q => (a172 j).trans ((my_up_ne f36 (by omega)).trans (c172 j))) ((a172 _).trans k36) (by omega) (by omega) (by have z := a171 x1; omega) (by omega)) | omega) (by omega)
                ·
                  refine w_iconst gz_188_160 (by decide) ?_
                  refine w_goto (t := 165) gz_188_161 rfl ?_
                  refine w_istore_n (ls' := [(2, 151), (0, x1), (0, v121), (0, 1), (0, v96)]) gz_188_165 gm_188 rfl rfl rfl ?_
                  refine w_goto (t := 18) gz_188_166 rfl ?_
                  have psJ : h134 151 7 = (sN (sm h) (h18_0 151 7)) := ((my_up_role fh134 is_151 is_171 rfl).trans ((my_up_role fh129 is_151 is_172 rfl).trans xp107))
                  have npsJ : sm h134 = sm h := sm_eq (fun j => my_fr.at gh134 is_153 rfl) (fun j => my_fr.at gh134 is_154 rfl) (fun j => my_fr.at gh134 is_155 rfl)
                  have ce142 : h134 151 7 = v136 := ev136.symm
                  have ce143 : h134 151 8 = v117 := ((my_up_role fh134 is_151 is_171 rfl).trans ((my_up_role fh129 is_151 is_172 rfl).trans ev117.symm))
                  have a168 : ∀ j : Int, h134 168 j = h18_0 168 j := fun j => ((my_up_role fh134 is_168 is_171 rfl).trans ((my_up_role fh129 is_168 is_172 rfl).trans ((my_fr.at frh95 is_168 rfl).trans (rfl : h18_0 168 j = h18_0 168 j))))
                  have a171 : ∀ j : Int, h134 171 j = h134 171 j := fun j => rfl
                  have a172 : ∀ j : Int, h134 172 j = h129 172 j := fun j => ((my_up_role fh134 is_172 is_171 rfl).trans (rfl : h129 172 j = h129 172 j))
                  refine w_weak (ls' := [(2, 151), (0, x1), (0, v121), (0, 1), (9, 0)]) (wk_e (wk_e (wk_e (wk_e (wk_9 wk_n))))) ?_
                  exact ih_18_0 (v121) (1) (v117) h134 (gh134) (by omega) (by omega) (by omega) (by omega) (((my_up_role fh134 is_151 is_171 rfl).trans ((my_up_role fh129 is_151 is_172 rfl).trans ((my_fr.at frh95 is_151 rfl).trans ev86.symm))).trans (by omega)) (((my_up_role fh134 is_151 is_171 rfl).trans ((my_up_role fh129 is_151 is_172 rfl).trans ev117.symm)).trans (by omega)) Tok_h134 Mq_h134 Wd9_h134 P6_h134 Ko_h134 Pz_h134 (by rw [a168]; first | exact k168 | exact k8_18_0) (by omega) (by first | (rw [a171]; exact pq_18_0) | (rw [a171, k13]; exact pop8_0) | (rw [a171, k46]; omega) | omega) (by omega) (by omega) (by first | (intro i i0 i7 il; exfalso; rw [a171, k13] at il; omega) | (intro i i0 i7 il; rw [a172]; exact fw_18_0 i i0 i7 (by have z := a171 x1; omega)) | exact (fun i i0 i7 il => fw2 i i0 i7 (by omega)) | omega) (by omega) (by first | (intro q; exfalso; omega) | exact (fun _ => fmI_0 (by omega) (by have z := a171 x1; omega) (by omega)) | exact (fun _ => fmI_s (fi_18_0 (by omega)) rfl (by omega) (by omega) (by omega) nb (by omega) (by omega) (by have z := a171 x1; omega) e17 pm_18_0.1 pm_18_0.2 (by omega) (by omega)) | omega) (by first | (intro q; exfalso; omega) | exact (fun _ => fmI_3 (fi_18_0 (by omega)) rfl (by omega) (by omega) (by omega) ib (by omega)) | exact (fun _ => fmI_e (fi_18_0 (by omega)) rfl (by omega) (by omega) (by omega) nb (by omega) (by omega) (by omega) (by have z := a171 x1; omega)) | exact (fun _ => fmI_1 (fi_18_0 (by omega)) rfl (by first | exact Or.inl ⟨by omega, by omega⟩ | exact Or.inr (Or.inl ⟨by omega, by omega, by omega⟩))) | (intro q; have z := fe_18_0 (by omega); exact z) | omega) (by first | (intro q; exfalso; omega) | exact (fun _ => FjI_0 (by omega) (by have z := a171 x1; omega)) | exact (fun _ => FjI_s (n := vm) (by have z2 := b171 x1; rw [show vm = h18_0 171 x1 by omega]; exact fj_18_0 (by omega)) (fun j q => (a172 j).trans ((my_up_ne f36 (by omega)).trans (c172 j))) ((a172 _).trans k36) (by omega) (by omega) (by have z := a171 x1; omega) (by omega)) | omega) (by omega)
            ·
              refine w_iload_n gz_188_60 rfl ?_
              refine w_aload_n gz_188_61 rfl ?_
              refine w_getX (v := 155) gz_188_62 is_151 rd_10 rfl (by decide) rfl ?_
              refine w_aload_n gz_188_65 rfl ?_
              refine v_getI (j := 7) gz_188_66 rfl is_151 rd_10 rfl (fun v145 ev145 pv145 qv145 => ?_)
              have zv145 := ev145.trans ev80.symm
              refine w_lald gz_188_69 is_155 rd_54 (by omega) (by omega) (fun v146 ev146 pv146 => ?_)
              have nz147 : v146 = sV (sm h) (h18_0 151 7) := by
                have q := ev146.trans (my_fr.at (j := v145) gh_18_0 is_155 rfl)
                rw [show (v145 : Int) = h18_0 151 7 from by omega] at q
                exact q
              have tb : 0 ≤ v146 ∧ v146 ≤ 999 := by
                have q := Tok_at n_Tok_18_0
                subst_vars
                omega
              refine w_l2iE gz_188_70 (fun v148 pv148 qv148 xv148 => ?_)
              have z155 : v148 = h18_0 155 (h18_0 151 7) := by subst_vars; omega
              refine w_ishrX gz_188_71 (fun v149 ev149 pv149 qv149 => ?_)
              refine w_iconst gz_188_72 (by decide) ?_
              refine w_iandXM gz_188_73 (by decide) (fun v150 ev150 pv150 qv150 => ?_)
              obtain ⟨vz, ez⟩ : ∃ vz : Int, vz = h18_0 155 (h18_0 151 7) := ⟨_, rfl⟩
              have bt : v150 = bnd (bsr p18_0 vz) 1 := by rw [ez, ← z155]; subst_vars; rfl
              refine w_iconst gz_188_74 (by decide) ?_
              refine w_icne (t := 83) gz_188_75 rfl (fun u151 => ?_) (fun u151 => ?_)
              ·
                refine w_aload_n gz_188_83 rfl ?_
                refine w_aload_n gz_188_84 rfl ?_
                refine v_getI (j := 27) gz_188_85 rfl is_151 rd_10 rfl (fun v152 ev152 pv152 qv152 => ?_)
                have zv152 := ev152.trans ev83.symm
                refine w_iconst gz_188_88 (by decide) ?_
                refine w_isub gz_188_89 ⟨by omega, by omega⟩ ?_
                have ce153 : h18_0 151 7 = v145 := ev145.symm
                have ce154 : h18_0 151 27 = v152 := ev152.symm
                refine w_inv (k := 0) (as := [(0, (v152 - 1))]) (r := []) (x := 151) (ls0 := [(2, 151), (0, (v152 - 1))]) gz_188_90 gm_187 rfl is_151 rd_10 rfl rfl rfl rfl rfl (c_Model_takeNumber9_f0 (d := d) (x1 := (v152 - 1)) (by omega) (by omega) (ev4.symm.trans (by omega)) n_Tok_18_0 (fun h155 frh155 w156 w157 xp158 xp159 Tok_h155t160 => ?_) (fun h161 v162 frh161 w163 w164 w165 w166 w167 xp168 xp169 xp170 xp171 xp172 xp173 xp174 xp175 Tok_h161t176 => ?_))
                ·
                  have gh155 : my_fr [(10, 7), (10, 8), (67, -1), (70, -1), (71, -1)] h h155 := my_fr.tr gh_18_0 (frh155.mo rfl)
                  have Mq_h155 : Mq h155 wv := Mq_ag (my_ag.fr frh155 rfl) n_Mq_18_0
                  have Wd9_h155 : Wd9 h155 := Wd9_ag (my_ag.fr frh155 rfl) n_Wd9_18_0
                  have P6_h155 : h155 167 6 = h 167 6 := P6_ag (my_ag.fr frh155 rfl) n_P6_18_0
                  have Ko_h155 : Ko h h155 := Ko_ag (my_ag.fr frh155 rfl) n_Ko_18_0
                  have Pz_h155 : Pz x1 h h155 := Pz_ag (my_ag.fr frh155 rfl) n_Pz_18_0
                  show wp l rho (d + 2) 188 93 [(2, 151), (0, x1), (0, p18_0), (0, p18_1), (9, 0)] [(0, 0)] h155 Q
                  have tE177 : sm h18_0 = sm h := sm_eq (fun j => my_fr.at gh_18_0 is_153 rfl) (fun j => my_fr.at gh_18_0 is_154 rfl) (fun j => my_fr.at gh_18_0 is_155 rfl)
                  rw [tE177] at xp159
                  refine w_istore (ls' := [(2, 151), (0, x1), (0, p18_0), (0, p18_1), (0, 0)]) gz_188_93 gm_188 rfl rfl rfl ?_
                  refine w_aload_n gz_188_95 rfl ?_
                  refine v_getI (j := 8) gz_188_96 rfl is_151 rd_10 rfl (fun v178 ev178 pv178 qv178 => ?_)
                  have zv178 := ev178.trans (rfl : h155 151 8 = h155 151 8)
                  refine w_ifne (t := 106) gz_188_99 rfl (fun u179 => ?_) (fun u179 => by exfalso; omega)
                  refine w_iconst gz_188_106 (by decide) ?_
                  refine w_istore_n (ls' := [(2, 151), (0, x1), (0, p18_0), (0, 0), (0, 0)]) gz_188_107 gm_188 rfl rfl rfl ?_
                  refine w_iload_n gz_188_108 rfl ?_
                  refine w_ifeq (t := 166) gz_188_109 rfl (fun u180 => ?_) (fun u180 => by exfalso; omega)
                  refine w_goto (t := 18) gz_188_166 rfl ?_
                  have psJ : h155 151 7 = (h18_0 151 7) := xp158
                  have npsJ : sm h155 = sm h := sm_eq (fun j => my_fr.at gh155 is_153 rfl) (fun j => my_fr.at gh155 is_154 rfl) (fun j => my_fr.at gh155 is_155 rfl)
                  have ce181 : h155 151 8 = v178 := ev178.symm
                  have a168 : ∀ j : Int, h155 168 j = h18_0 168 j := fun j => ((my_fr.at frh155 is_168 rfl).trans (rfl : h18_0 168 j = h18_0 168 j))
                  have a171 : ∀ j : Int, h155 171 j = h18_0 171 j := fun j => ((my_fr.at frh155 is_171 rfl).trans (rfl : h18_0 171 j = h18_0 171 j))
                  have a172 : ∀ j : Int, h155 172 j = h18_0 172 j := fun j => ((my_fr.at frh155 is_172 rfl).trans (rfl : h18_0 172 j = h18_0 172 j))
                  refine w_weak (ls' := [(2, 151), (0, x1), (0, p18_0), (0, 0), (9, 0)]) (wk_e (wk_e (wk_e (wk_e (wk_9 wk_n))))) ?_
                  exact ih_18_0 (p18_0) (0) (v178) h155 (gh155) (by omega) (by omega) (by omega) (by omega) (((my_fr.at frh155 is_151 rfl).trans ev152.symm).trans (by omega)) (ev178.symm.trans (by omega)) Tok_h155t160 Mq_h155 Wd9_h155 P6_h155 Ko_h155 Pz_h155 (by rw [a168]; first | exact k168 | exact k8_18_0) (by omega) (by first | (rw [a171]; exact pq_18_0) | (rw [a171, k13]; exact pop8_0) | (rw [a171, k46]; omega) | omega) (by omega) (by omega) (by first | (intro i i0 i7 il; exfalso; rw [a171, k13] at il; omega) | (intro i i0 i7 il; rw [a172]; exact fw_18_0 i i0 i7 (by have z := a171 x1; omega)) | exact (fun i i0 i7 il => fw2 i i0 i7 (by omega)) | omega) (by omega) (by first | (intro q; exfalso; omega) | exact (fun _ => fmI_0 (by omega) (by have z := a171 x1; omega) (by omega)) | exact (fun _ => fmI_s (fi_18_0 (by omega)) rfl (by omega) (by omega) (by omega) nb (by omega) (by omega) (by have z := a171 x1; omega) e17 pm_18_0.1 pm_18_0.2 (by omega) (by omega)) | omega) (by first | (intro q; exfalso; omega) | exact (fun _ => fmI_3 (fi_18_0 (by omega)) rfl (by omega) (by omega) (by omega) ib (by omega)) | exact (fun _ => fmI_e (fi_18_0 (by omega)) rfl (by omega) (by omega) (by omega) nb (by omega) (by omega) (by omega) (by have z := a171 x1; omega)) | exact (fun _ => fmI_1 (fi_18_0 (by omega)) rfl (by first | exact Or.inl ⟨by omega, by omega⟩ | exact Or.inr (Or.inl ⟨by omega, by omega, by omega⟩))) | (intro q; have z := fe_18_0 (by omega); exact z) | omega) (by first | (intro q; exfalso; omega) | exact (fun _ => FjI_0 (by omega) (by have z := a171 x1; omega)) | exact (fun _ => FjI_s (n := vm) (by have z2 := b171 x1; rw [show vm = h18_0 171 x1 by omega]; exact fj_18_0 (by omega)) (fun j q => (a172 j).trans ((my_up_ne f36 (by omega)).trans (c172 j))) ((a172 _).trans k36) (by omega) (by omega) (by have z := a171 x1; omega) (by omega)) | omega) (by omega)
                ·
                  have gh161 : my_fr [(10, 7), (10, 8), (67, -1), (70, -1), (71, -1)] h h161 := my_fr.tr gh_18_0 (frh161.mo rfl)
                  have Mq_h161 : Mq h161 wv := Mq_ag (my_ag.fr frh161 rfl) n_Mq_18_0
                  have Wd9_h161 : Wd9 h161 := Wd9_ag (my_ag.fr frh161 rfl) n_Wd9_18_0
                  have P6_h161 : h161 167 6 = h 167 6 := P6_ag (my_ag.fr frh161 rfl) n_P6_18_0
                  have Ko_h161 : Ko h h161 := Ko_ag (my_ag.fr frh161 rfl) n_Ko_18_0
                  have Pz_h161 : Pz x1 h h161 := Pz_ag (my_ag.fr frh161 rfl) n_Pz_18_0
                  show wp l rho (d + 2) 188 93 [(2, 151), (0, x1), (0, p18_0), (0, p18_1), (9, 0)] [(0, v162)] h161 Q
                  have tE182 : sm h18_0 = sm h := sm_eq (fun j => my_fr.at gh_18_0 is_153 rfl) (fun j => my_fr.at gh_18_0 is_154 rfl) (fun j => my_fr.at gh_18_0 is_155 rfl)
                  rw [tE182] at xp173
                  rw [tE182] at xp174
                  rw [tE182] at xp175
                  refine w_istore (ls' := [(2, 151), (0, x1), (0, p18_0), (0, p18_1), (0, v162)]) gz_188_93 gm_188 rfl rfl rfl ?_
                  refine w_aload_n gz_188_95 rfl ?_
                  refine v_getI (j := 8) gz_188_96 rfl is_151 rd_10 rfl (fun v183 ev183 pv183 qv183 => ?_)
                  have zv183 := ev183.trans w167
                  refine w_ifne (t := 106) gz_188_99 rfl (fun u184 => by exfalso; omega) (fun u184 => ?_)
                  refine w_iconst gz_188_102 (by decide) ?_
                  refine w_goto (t := 107) gz_188_103 rfl ?_
                  refine w_istore_n (ls' := [(2, 151), (0, x1), (0, p18_0), (0, 1), (0, v162)]) gz_188_107 gm_188 rfl rfl rfl ?_
                  refine w_iload_n gz_188_108 rfl ?_
                  refine w_ifeq (t := 166) gz_188_109 rfl (fun u185 => by exfalso; omega) (fun u185 => ?_)
                  refine w_iload_n gz_188_112 rfl ?_
                  refine w_iconst gz_188_113 (by decide) ?_
                  refine w_iload gz_188_114 rfl ?_
                  refine w_ishlX gz_188_116 (fun v186 ev186 pv186 qv186 => ?_)
                  refine w_iorX gz_188_117 (fun v187 ev187 pv187 qv187 => ?_)
                  have e17 : v187 = bor p18_0 (bsl 1 v162) := by subst_vars; rfl
                  have pp : pop8 v187 = pop8 p18_0 + 1 ∧ pop8 p18_0 ≤ 7 ∧ 0 ≤ v187 ∧ v187 ≤ 255 := by first | (have yz : v162 = vz := (by omega); rw [yz] at e17; have z := pop8_add pm_18_0.1 pm_18_0.2 (v := vz) (by omega) (by omega) (by omega); rw [← e17] at z; exact z) | (exfalso; (try clear k0); (try clear k1); grind) | omega
                  have nb : ¬ BtS p18_0 v162 := by first | (have yz : v162 = vz := (by omega); intro z; have z3 := z.2.2; rw [yz] at z3; omega) | (exfalso; omega)
                  refine w_istore_n (ls' := [(2, 151), (0, x1), (0, v187), (0, 1), (0, v162)]) gz_188_118 gm_188 rfl rfl rfl ?_
                  refine w_aload_n gz_188_119 rfl ?_
                  refine w_getX (v := 172) gz_188_120 is_151 rd_10 rfl (by decide) rfl ?_
                  refine w_bipush gz_188_123 (by decide) ?_
                  refine w_iload_n gz_188_125 rfl ?_
                  refine w_imul gz_188_126 ⟨by omega, by omega⟩ ?_
                  refine w_aload_n gz_188_127 rfl ?_
                  refine w_getX (v := 171) gz_188_128 is_151 rd_10 rfl (by decide) rfl ?_
                  refine w_iload_n gz_188_131 rfl ?_
                  refine w_iald gz_188_132 is_171 rd_70 (by omega) (by omega) (fun v190 ev190 pv190 qv190 => ?_)
                  have b171 : ∀ j : Int, h161 171 j = h18_0 171 j := fun j => ((my_fr.at frh161 is_171 rfl).trans (rfl : h18_0 171 j = h18_0 171 j))
                  have f7 : v190 ≤ 7 := by have q := b171 x1; omega
                  obtain ⟨vm, em⟩ : ∃ vm : Int, vm = v190 := ⟨_, rfl⟩
                  have c172 : ∀ j : Int, h161 172 j = h18_0 172 j := fun j => ((my_fr.at frh161 is_172 rfl).trans (rfl : h18_0 172 j = h18_0 172 j))
                  refine w_iadd gz_188_133 ⟨by omega, by omega⟩ ?_
                  refine w_iload gz_188_134 rfl ?_
                  have hi191 : 0 ≤ v162 := by omega
                  have hi192 : v162 ≤ 7 := by omega
                  have hi193 : 0 ≤ ((8 * x1) + v190) := by omega
                  have hi194 : ((8 * x1) + v190) ≤ 335 := by omega
                  refine w_iast gz_188_136 is_172 rd_71 (by omega) (by omega) (by omega) (by omega) (fun h195 fh195 => ?_)
                  have gh195 : my_fr [(10, 7), (10, 8), (67, -1), (70, -1), (71, -1)] h h195 := my_fr.up gh161 is_172 fh195 rfl
                  have Mq_h195 : Mq h195 wv := Mq_v (a := 172) hwv (by decide) (by omega) fh195 Mq_h161
                  have Wd9_h195 : Wd9 h195 := Wd9_ag (my_ag.up fh195 is_172 rfl) Wd9_h161
                  have P6_h195 : h195 167 6 = h 167 6 := P6_ag (my_ag.up fh195 is_172 rfl) P6_h161
                  have Ko_h195 : Ko h h195 := Ko_v (a := 172) hwv (by decide) (by omega) fh195 Ko_h161
                  have Pz_h195 : Pz x1 h h195 := Pz_v (a := 172) hwv (by decide) (by omega) fh195 Pz_h161
                  have Tok_h195 : Tok h195 := Tok_ag (my_ag.up fh195 is_172 rfl) Tok_h161t176
                  have f36 := fh195
                  have k36 : h195 172 (8 * x1 + vm) = v162 := by rw [show 8 * x1 + vm = _ from by rw [em]]; exact my_up_self fh195
                  refine w_aload_n gz_188_137 rfl ?_
                  refine w_getX (v := 171) gz_188_138 is_151 rd_10 rfl (by decide) rfl ?_
                  refine w_iload_n gz_188_141 rfl ?_
                  refine w_dup2 gz_188_142 rfl rfl ?_
                  refine w_iald gz_188_143 is_171 rd_70 (by omega) (by omega) (fun v197 ev197 pv197 qv197 => ?_)
                  have zv197 := ev197.trans ((my_up_role fh195 is_171 is_172 rfl).trans ev190.symm)
                  have c171 : ∀ j : Int, h195 171 j = h18_0 171 j := fun j => ((my_up_role fh195 is_171 is_172 rfl).trans ((my_fr.at frh161 is_171 rfl).trans (rfl : h18_0 171 j = h18_0 171 j)))
                  have f8 : v197 ≤ 7 := by have q := c171 x1; omega
                  refine w_iconst gz_188_144 (by decide) ?_
                  refine w_iadd gz_188_145 ⟨by omega, by omega⟩ ?_
                  have hi198 : 0 ≤ (v197 + 1) := by omega
                  have hi199 : (v197 + 1) ≤ 8 := by omega
                  refine w_iast gz_188_146 is_171 rd_70 (by omega) (by omega) (by omega) (by omega) (fun h200 fh200 => ?_)
                  have gh200 : my_fr [(10, 7), (10, 8), (67, -1), (70, -1), (71, -1)] h h200 := my_fr.up gh195 is_171 fh200 rfl
                  have Mq_h200 : Mq h200 wv := Mq_u (a := 171) hwv (by decide) (by omega) fh200 Mq_h195
                  have Wd9_h200 : Wd9 h200 := Wd9_ag (my_ag.up fh200 is_171 rfl) Wd9_h195
                  have P6_h200 : h200 167 6 = h 167 6 := P6_ag (my_ag.up fh200 is_171 rfl) P6_h195
                  have Ko_h200 : Ko h h200 := Ko_u (a := 171) hwv (by decide) (by omega) fh200 Ko_h195
                  have Pz_h200 : Pz x1 h h200 := Pz_u (a := 171) hwv (by decide) (by omega) fh200 Pz_h195
                  have Tok_h200 : Tok h200 := Tok_ag (my_ag.up fh200 is_171 rfl) Tok_h195
                  have k46 := my_up_self fh200
                  have z46 := b171 x1
                  have z47 := c171 x1
                  have e46 : h200 171 x1 = vm + 1 := by have z3 := c171 x1; have z2 := b171 x1; omega
                  have d172 : ∀ j : Int, h200 172 j = h195 172 j := fun j => ((my_up_role fh200 is_172 is_171 rfl).trans (rfl : h195 172 j = h195 172 j))
                  have fw2 : ∀ i : Int, 0 ≤ i → i ≤ 7 → i < vm + 1 → h200 172 (8 * x1 + i) < k151_27 := fun i i0 i7 il => by
                    rw [d172]
                    by_cases q : i = vm
                    · rw [q, k36]; omega
                    · rw [my_up_ne f36 (by omega), c172]; exact fw_18_0 i i0 i7 (by have z2 := b171 x1; omega)
                  refine w_aload_n gz_188_147 rfl ?_
                  refine w_getX (v := 153) gz_188_148 is_151 rd_10 rfl (by decide) rfl ?_
                  refine w_aload_n gz_188_151 rfl ?_
                  refine v_getI (j := 7) gz_188_152 rfl is_151 rd_10 rfl (fun v202 ev202 pv202 qv202 => ?_)
                  have zv202 := ev202.trans ((my_up_role fh200 is_151 is_171 rfl).trans ((my_up_role fh195 is_151 is_172 rfl).trans (rfl : h161 151 7 = h161 151 7)))
                  refine w_iald gz_188_155 is_153 rd_52 (by omega) (by omega) (fun v203 ev203 pv203 qv203 => ?_)
                  have nz204a : h200 151 7 = (sN (sm h) (h18_0 151 7)) := ((my_up_role fh200 is_151 is_171 rfl).trans ((my_up_role fh195 is_151 is_172 rfl).trans xp173))
                  have nz204 : (v203 ≠ 3 → sK (sm h) (sN (sm h) (h18_0 151 7)) = v203) ∧ (v203 = 3 → sV (sm h) (sN (sm h) (h18_0 151 7)) = 59 → sK (sm h) (sN (sm h) (h18_0 151 7)) = 3) ∧ (v203 = 3 → sV (sm h) (sN (sm h) (h18_0 151 7)) ≠ 59 → sK (sm h) (sN (sm h) (h18_0 151 7)) = 4) := by
                    have q := ev203.trans (my_fr.at (j := v202) gh200 is_153 rfl)
                    rw [show (v202 : Int) = (sN (sm h) (h18_0 151 7)) from by omega] at q
                    exact sK_ld q
                  refine w_iconst gz_188_156 (by decide) ?_
                  refine w_icne (t := 164) gz_188_157 rfl (fun u205 => ?_) (fun u205 => ?_)
                  ·
                    refine w_iconst gz_188_164 (by decide) ?_
                    refine w_istore_n (ls' := [(2, 151), (0, x1), (0, v187), (0, 0), (0, v162)]) gz_188_165 gm_188 rfl rfl rfl ?_
                    refine w_goto (t := 18) gz_188_166 rfl ?_
                    have psJ : h200 151 7 = (sN (sm h) (h18_0 151 7)) := ((my_up_role fh200 is_151 is_171 rfl).trans ((my_up_role fh195 is_151 is_172 rfl).trans xp173))
                    have npsJ : sm h200 = sm h := sm_eq (fun j => my_fr.at gh200 is_153 rfl) (fun j => my_fr.at gh200 is_154 rfl) (fun j => my_fr.at gh200 is_155 rfl)
                    have ce206 : h200 151 7 = v202 := ev202.symm
                    have ce207 : h200 151 8 = v183 := ((my_up_role fh200 is_151 is_171 rfl).trans ((my_up_role fh195 is_151 is_172 rfl).trans ev183.symm))
                    have a168 : ∀ j : Int, h200 168 j = h18_0 168 j := fun j => ((my_up_role fh200 is_168 is_171 rfl).trans ((my_up_role fh195 is_168 is_172 rfl).trans ((my_fr.at frh161 is_168 rfl).trans (rfl : h18_0 168 j = h18_0 168 j))))
                    have a171 : ∀ j : Int, h200 171 j = h200 171 j := fun j => rfl
                    have a172 : ∀ j : Int, h200 172 j = h195 172 j := fun j => ((my_up_role fh200 is_172 is_171 rfl).trans (rfl : h195 172 j = h195 172 j))
                    refine w_weak (ls' := [(2, 151), (0, x1), (0, v187), (0, 0), (9, 0)]) (wk_e (wk_e (wk_e (wk_e (wk_9 wk_n))))) ?_
                    exact ih_18_0 (v187) (0) (v183) h200 (gh200) (by omega) (by omega) (by omega) (by omega) (((my_up_role fh200 is_151 is_171 rfl).trans ((my_up_role fh195 is_151 is_172 rfl).trans ((my_fr.at frh161 is_151 rfl).trans ev152.symm))).trans (by omega)) (((my_up_role fh200 is_151 is_171 rfl).trans ((my_up_role fh195 is_151 is_172 rfl).trans ev183.symm)).trans (by omega)) Tok_h200 Mq_h200 Wd9_h200 P6_h200 Ko_h200 Pz_h200 (by rw [a168]; first | exact k168 | exact k8_18_0) (by omega) (by first | (rw [a171]; exact pq_18_0) | (rw [a171, k13]; exact pop8_0) | (rw [a171, k46]; omega) | omega) (by omega) (by omega) (by first | (intro i i0 i7 il; exfalso; rw [a171, k13] at il; omega) | (intro i i0 i7 il; rw [a172]; exact fw_18_0 i i0 i7 (by have z := a171 x1; omega)) | exact (fun i i0 i7 il => fw2 i i0 i7 (by omega)) | omega) (by omega) (by first | (intro q; exfalso; omega) | exact (fun _ => fmI_0 (by omega) (by have z := a171 x1; omega) (by omega)) | exact (fun _ => fmI_s (fi_18_0 (by omega)) rfl (by omega) (by omega) (by omega) nb (by omega) (by omega) (by have z := a171 x1; omega) e17 pm_18_0.1 pm_18_0.2 (by omega) (by omega)) | omega) (by first | (intro q; exfalso; omega) | exact (fun _ => fmI_3 (fi_18_0 (by omega)) rfl (by omega) (by omega) (by omega) ib (by omega)) | exact (fun _ => fmI_e (fi_18_0 (by omega)) rfl (by omega) (by omega) (by omega) nb (by omega) (by omega) (by omega) (by have z := a171 x1; omega)) | exact (fun _ => fmI_1 (fi_18_0 (by omega)) rfl (by first | exact Or.inl ⟨by omega, by omega⟩ | exact Or.inr (Or.inl ⟨by omega, by omega, by omega⟩))) | (intro q; have z := fe_18_0 (by omega); exact z) | omega) (by first | (intro q; exfalso; omega) | exact (fun _ => FjI_0 (by omega) (by have z := a171 x1; omega)) | exact (fun _ => FjI_s (n := vm) (by have z2 := b171 x1; rw [show vm = h18_0 171 x1 by omega]; exact fj_18_0 (by omega)) (fun j q => (a172 j).trans ((my_up_ne f36 (by omega)).trans (c172 j))) ((a172 _).trans k36) (by omega) (by omega) (by have z := a171 x1; omega) (by omega)) | omega) (by omega)
                  ·
                    refine w_iconst gz_188_160 (by decide) ?_
                    refine w_goto (t := 165) gz_188_161 rfl ?_
                    refine w_istore_n (ls' := [(2, 151), (0, x1), (0, v187), (0, 1), (0, v162)]) gz_188_165 gm_188 rfl rfl rfl ?_
                    refine w_goto (t := 18) gz_188_166 rfl ?_
                    have psJ : h200 151 7 = (sN (sm h) (h18_0 151 7)) := ((my_up_role fh200 is_151 is_171 rfl).trans ((my_up_role fh195 is_151 is_172 rfl).trans xp173))
                    have npsJ : sm h200 = sm h := sm_eq (fun j => my_fr.at gh200 is_153 rfl) (fun j => my_fr.at gh200 is_154 rfl) (fun j => my_fr.at gh200 is_155 rfl)
                    have ce208 : h200 151 7 = v202 := ev202.symm
                    have ce209 : h200 151 8 = v183 := ((my_up_role fh200 is_151 is_171 rfl).trans ((my_up_role fh195 is_151 is_172 rfl).trans ev183.symm))
                    have a168 : ∀ j : Int, h200 168 j = h18_0 168 j := fun j => ((my_up_role fh200 is_168 is_171 rfl).trans ((my_up_role fh195 is_168 is_172 rfl).trans ((my_fr.at frh161 is_168 rfl).trans (rfl : h18_0 168 j = h18_0 168 j))))
                    have a171 : ∀ j : Int, h200 171 j = h200 171 j := fun j => rfl
                    have a172 : ∀ j : Int, h200 172 j = h195 172 j := fun j => ((my_up_role fh200 is_172 is_171 rfl).trans (rfl : h195 172 j = h195 172 j))
                    refine w_weak (ls' := [(2, 151), (0, x1), (0, v187), (0, 1), (9, 0)]) (wk_e (wk_e (wk_e (wk_e (wk_9 wk_n))))) ?_
                    exact ih_18_0 (v187) (1) (v183) h200 (gh200) (by omega) (by omega) (by omega) (by omega) (((my_up_role fh200 is_151 is_171 rfl).trans ((my_up_role fh195 is_151 is_172 rfl).trans ((my_fr.at frh161 is_151 rfl).trans ev152.symm))).trans (by omega)) (((my_up_role fh200 is_151 is_171 rfl).trans ((my_up_role fh195 is_151 is_172 rfl).trans ev183.symm)).trans (by omega)) Tok_h200 Mq_h200 Wd9_h200 P6_h200 Ko_h200 Pz_h200 (by rw [a168]; first | exact k168 | exact k8_18_0) (by omega) (by first | (rw [a171]; exact pq_18_0) | (rw [a171, k13]; exact pop8_0) | (rw [a171, k46]; omega) | omega) (by omega) (by omega) (by first | (intro i i0 i7 il; exfalso; rw [a171, k13] at il; omega) | (intro i i0 i7 il; rw [a172]; exact fw_18_0 i i0 i7 (by have z := a171 x1; omega)) | exact (fun i i0 i7 il => fw2 i i0 i7 (by omega)) | omega) (by omega) (by first | (intro q; exfalso; omega) | exact (fun _ => fmI_0 (by omega) (by have z := a171 x1; omega) (by omega)) | exact (fun _ => fmI_s (fi_18_0 (by omega)) rfl (by omega) (by omega) (by omega) nb (by omega) (by omega) (by have z := a171 x1; omega) e17 pm_18_0.1 pm_18_0.2 (by omega) (by omega)) | omega) (by first | (intro q; exfalso; omega) | exact (fun _ => fmI_3 (fi_18_0 (by omega)) rfl (by omega) (by omega) (by omega) ib (by omega)) | exact (fun _ => fmI_e (fi_18_0 (by omega)) rfl (by omega) (by omega) (by omega) nb (by omega) (by omega) (by omega) (by have z := a171 x1; omega)) | exact (fun _ => fmI_1 (fi_18_0 (by omega)) rfl (by first | exact Or.inl ⟨by omega, by omega⟩ | exact Or.inr (Or.inl ⟨by omega, by omega, by omega⟩))) | (intro q; have z := fe_18_0 (by omega); exact z) | omega) (by first | (intro q; exfalso; omega) | exact (fun _ => FjI_0 (by omega) (by have z := a171 x1; omega)) | exact (fun _ => FjI_s (n := vm) (by have z2 := b171 x1; rw [show vm = h18_0 171 x1 by omega]; exact fj_18_0 (by omega)) (fun j q => (a172 j).trans ((my_up_ne f36 (by omega)).trans (c172 j))) ((a172 _).trans k36) (by omega) (by omega) (by have z := a171 x1; omega) (by omega)) | omega) (by omega)
              ·
                have ib : BtS p18_0 vz := ⟨by have q := Tok_at n_Tok_18_0; subst_vars; omega, by subst_vars; omega, by omega⟩
                have iv : vz = sV (sm h) (h18_0 151 7) := by subst_vars; omega
                refine w_aload_n gz_188_78 rfl ?_
                refine w_iconst gz_188_79 (by decide) ?_
                have ce210 : h18_0 151 7 = v145 := ev145.symm
                have ce211 : h18_0 151 27 = v83 := ev83.symm
                refine w_inv (k := 0) (as := [(0, 3)]) (r := []) (x := 151) (ls0 := [(2, 151), (0, 3)]) gz_188_80 gm_178 rfl is_151 rd_10 rfl rfl rfl rfl rfl ?_
                refine w_aload_n gz_178_0 rfl ?_
                refine v_getI (j := 8) gz_178_1 rfl is_151 rd_10 rfl (fun v212 ev212 pv212 qv212 => ?_)
                have zv212 := ev212.trans ev4.symm
                refine w_ifne (t := 25) gz_178_4 rfl (fun u213 => by exfalso; omega) (fun u213 => ?_)
                refine w_aload_n gz_178_7 rfl ?_
                refine w_iload_n gz_178_8 rfl ?_
                refine w_bipush gz_178_9 (by decide) ?_
                refine w_aload_n gz_178_11 rfl ?_
                refine w_getX (v := 154) gz_178_12 is_151 rd_10 rfl (by decide) rfl ?_
                refine w_aload_n gz_178_15 rfl ?_
                refine v_getI (j := 7) gz_178_16 rfl is_151 rd_10 rfl (fun v215 ev215 pv215 qv215 => ?_)
                have zv215 := ev215.trans ev145.symm
                refine w_iald gz_178_19 is_154 rd_53 (by omega) (by omega) (fun v216 ev216 pv216 qv216 => ?_)
                have nz217 : v216 = sP (sm h) (h18_0 151 7) := by
                  have q := ev216.trans (my_fr.at (j := v215) gh_18_0 is_154 rfl)
                  rw [show (v215 : Int) = h18_0 151 7 from by omega] at q
                  exact q
                refine w_imul gz_178_20 ⟨by omega, by omega⟩ ?_
                refine w_iadd gz_178_21 ⟨by omega, by omega⟩ ?_
                refine v_putI (j := 8) gz_178_22 rfl is_151 rd_10 rfl (by omega) (by omega) rfl (fun h218 fh218 => ?_)
                have gh218 : my_fr [(10, 7), (10, 8), (67, -1), (70, -1), (71, -1)] h h218 := my_fr.up gh_18_0 is_151 fh218 rfl
                have Tok_h218 : Tok h218 := Tok_ag (my_ag.up fh218 is_151 rfl) n_Tok_18_0
                have Mq_h218 : Mq h218 wv := Mq_ag (my_ag.up fh218 is_151 rfl) n_Mq_18_0
                have Wd9_h218 : Wd9 h218 := Wd9_ag (my_ag.up fh218 is_151 rfl) n_Wd9_18_0
                have P6_h218 : h218 167 6 = h 167 6 := P6_ag (my_ag.up fh218 is_151 rfl) n_P6_18_0
                have Ko_h218 : Ko h h218 := Ko_ag (my_ag.up fh218 is_151 rfl) n_Ko_18_0
                have Pz_h218 : Pz x1 h h218 := Pz_ag (my_ag.up fh218 is_151 rfl) n_Pz_18_0
                refine w_vret gz_178_25 gm_178 ?_
                show wp l rho (d + 2) 188 83 [(2, 151), (0, x1), (0, p18_0), (0, p18_1), (9, 0)] [] h218 Q
                refine w_aload_n gz_188_83 rfl ?_
                refine w_aload_n gz_188_84 rfl ?_
                refine v_getI (j := 27) gz_188_85 rfl is_151 rd_10 rfl (fun v219 ev219 pv219 qv219 => ?_)
                have zv219 := ev219.trans ((my_up_fld fh218 (by decide)).trans ev83.symm)
                refine w_iconst gz_188_88 (by decide) ?_
                refine w_isub gz_188_89 ⟨by omega, by omega⟩ ?_
                have ce220 : h218 151 7 = v215 := ((my_up_fld fh218 (by decide)).trans ev215.symm)
                have ce221 : h218 151 27 = v219 := ev219.symm
                refine w_inv (k := 0) (as := [(0, (v219 - 1))]) (r := []) (x := 151) (ls0 := [(2, 151), (0, (v219 - 1))]) gz_188_90 gm_187 rfl is_151 rd_10 rfl rfl rfl rfl rfl (c_Model_takeNumber9_f1 (d := d) (x1 := (v219 - 1)) (by omega) (by omega) ((3 + (16 * v216))) ((my_up_self fh218)) (by omega) (by omega) Tok_h218 (fun w222 w223 xp224 Tok_h218t225 => ?_))
                show wp l rho (d + 2) 188 93 [(2, 151), (0, x1), (0, p18_0), (0, p18_1), (9, 0)] [(0, 0)] h218 Q
                have ps226 : h218 151 7 = h18_0 151 7 := ((my_up_fld fh218 (by decide)).trans (rfl : h18_0 151 7 = h18_0 151 7))
                rw [ps226] at xp224
                refine w_istore (ls' := [(2, 151), (0, x1), (0, p18_0), (0, p18_1), (0, 0)]) gz_188_93 gm_188 rfl rfl rfl ?_
                refine w_aload_n gz_188_95 rfl ?_
                refine v_getI (j := 8) gz_188_96 rfl is_151 rd_10 rfl (fun v227 ev227 pv227 qv227 => ?_)
                have zv227 := ev227.trans (my_up_self fh218)
                refine w_ifne (t := 106) gz_188_99 rfl (fun u228 => ?_) (fun u228 => by exfalso; omega)
                refine w_iconst gz_188_106 (by decide) ?_
                refine w_istore_n (ls' := [(2, 151), (0, x1), (0, p18_0), (0, 0), (0, 0)]) gz_188_107 gm_188 rfl rfl rfl ?_
                refine w_iload_n gz_188_108 rfl ?_
                refine w_ifeq (t := 166) gz_188_109 rfl (fun u229 => ?_) (fun u229 => by exfalso; omega)
                refine w_goto (t := 18) gz_188_166 rfl ?_
                have psJ : h218 151 7 = h18_0 151 7 := ((my_up_fld fh218 (by decide)).trans (rfl : h18_0 151 7 = h18_0 151 7))
                have npsJ : sm h218 = sm h := sm_eq (fun j => my_fr.at gh218 is_153 rfl) (fun j => my_fr.at gh218 is_154 rfl) (fun j => my_fr.at gh218 is_155 rfl)
                have ce230 : h218 151 7 = v215 := ((my_up_fld fh218 (by decide)).trans ev215.symm)
                have ce231 : h218 151 8 = v227 := ev227.symm
                have a168 : ∀ j : Int, h218 168 j = h18_0 168 j := fun j => ((my_up_role fh218 is_168 is_151 rfl).trans (rfl : h18_0 168 j = h18_0 168 j))
                have a171 : ∀ j : Int, h218 171 j = h18_0 171 j := fun j => ((my_up_role fh218 is_171 is_151 rfl).trans (rfl : h18_0 171 j = h18_0 171 j))
                have a172 : ∀ j : Int, h218 172 j = h18_0 172 j := fun j => ((my_up_role fh218 is_172 is_151 rfl).trans (rfl : h18_0 172 j = h18_0 172 j))
                refine w_weak (ls' := [(2, 151), (0, x1), (0, p18_0), (0, 0), (9, 0)]) (wk_e (wk_e (wk_e (wk_e (wk_9 wk_n))))) ?_
                exact ih_18_0 (p18_0) (0) (v227) h218 (gh218) (by omega) (by omega) (by omega) (by omega) (ev219.symm.trans (by omega)) (ev227.symm.trans (by omega)) Tok_h218t225 Mq_h218 Wd9_h218 P6_h218 Ko_h218 Pz_h218 (by rw [a168]; first | exact k168 | exact k8_18_0) (by omega) (by first | (rw [a171]; exact pq_18_0) | (rw [a171, k13]; exact pop8_0) | (rw [a171, k46]; omega) | omega) (by omega) (by omega) (by first | (intro i i0 i7 il; exfalso; rw [a171, k13] at il; omega) | (intro i i0 i7 il; rw [a172]; exact fw_18_0 i i0 i7 (by have z := a171 x1; omega)) | exact (fun i i0 i7 il => fw2 i i0 i7 (by omega)) | omega) (by omega) (by first | (intro q; exfalso; omega) | exact (fun _ => fmI_0 (by omega) (by have z := a171 x1; omega) (by omega)) | exact (fun _ => fmI_s (fi_18_0 (by omega)) rfl (by omega) (by omega) (by omega) nb (by omega) (by omega) (by have z := a171 x1; omega) e17 pm_18_0.1 pm_18_0.2 (by omega) (by omega)) | omega) (by first | (intro q; exfalso; omega) | exact (fun _ => fmI_3 (fi_18_0 (by omega)) rfl (by omega) (by omega) (by omega) ib (by omega)) | exact (fun _ => fmI_e (fi_18_0 (by omega)) rfl (by omega) (by omega) (by omega) nb (by omega) (by omega) (by omega) (by have z := a171 x1; omega)) | exact (fun _ => fmI_1 (fi_18_0 (by omega)) rfl (by first | exact Or.inl ⟨by omega, by omega⟩ | exact Or.inr (Or.inl ⟨by omega, by omega, by omega⟩))) | (intro q; have z := fe_18_0 (by omega); exact z) | omega) (by first | (intro q; exfalso; omega) | exact (fun _ => FjI_0 (by omega) (by have z := a171 x1; omega)) | exact (fun _ => FjI_s (n := vm) (by have z2 := b171 x1; rw [show vm = h18_0 171 x1 by omega]; exact fj_18_0 (by omega)) (fun j q => (a172 j).trans ((my_up_ne f36 (by omega)).trans (c172 j))) ((a172 _).trans k36) (by omega) (by omega) (by have z := a171 x1; omega) (by omega)) | omega) (by omega)
  refine w_aload_n gz_188_0 rfl ?_
  refine w_getX (v := 168) gz_188_1 is_151 rd_10 rfl (by decide) rfl ?_
  refine w_iload_n gz_188_4 rfl ?_
  refine w_iconst gz_188_5 (by decide) ?_
  refine w_iast gz_188_6 is_168 rd_67 (by omega) (by omega) (by omega) (by omega) (fun h233 fh233 => ?_)
  have gh233 : my_fr [(10, 7), (10, 8), (67, -1), (70, -1), (71, -1)] h h233 := my_fr.up my_fr.rf is_168 fh233 rfl
  have Tok_h233 : Tok h233 := Tok_ag (my_ag.up fh233 is_168 rfl) n_Tok
  have Mq_h233 : Mq h233 wv := Mq_u (a := 168) hwv (by decide) (by omega) fh233 n_Mq
  have Wd9_h233 : Wd9 h233 := Wd9_ag (my_ag.up fh233 is_168 rfl) n_Wd9
  have P6_h233 : h233 167 6 = h 167 6 := P6_ag (my_ag.up fh233 is_168 rfl) (rfl)
  have Ko_h233 : Ko h h233 := Ko_u (a := 168) hwv (by decide) (by omega) fh233 (Ko_rf)
  have Pz_h233 : Pz x1 h h233 := Pz_u (a := 168) hwv (by decide) (by omega) fh233 (Pz_rf)
  have k168 : h233 168 x1 = 3 := my_up_self fh233
  refine w_aload_n gz_188_7 rfl ?_
  refine w_getX (v := 171) gz_188_8 is_151 rd_10 rfl (by decide) rfl ?_
  refine w_iload_n gz_188_11 rfl ?_
  refine w_iconst gz_188_12 (by decide) ?_
  refine w_iast gz_188_13 is_171 rd_70 (by omega) (by omega) (by omega) (by omega) (fun h235 fh235 => ?_)
  have gh235 : my_fr [(10, 7), (10, 8), (67, -1), (70, -1), (71, -1)] h h235 := my_fr.up gh233 is_171 fh235 rfl
  have Tok_h235 : Tok h235 := Tok_ag (my_ag.up fh235 is_171 rfl) Tok_h233
  have Mq_h235 : Mq h235 wv := Mq_u (a := 171) hwv (by decide) (by omega) fh235 Mq_h233
  have Wd9_h235 : Wd9 h235 := Wd9_ag (my_ag.up fh235 is_171 rfl) Wd9_h233
  have P6_h235 : h235 167 6 = h 167 6 := P6_ag (my_ag.up fh235 is_171 rfl) P6_h233
  have Ko_h235 : Ko h h235 := Ko_u (a := 171) hwv (by decide) (by omega) fh235 Ko_h233
  have Pz_h235 : Pz x1 h h235 := Pz_u (a := 171) hwv (by decide) (by omega) fh235 Pz_h233
  have k13 : h235 171 x1 = 0 := my_up_self fh235
  refine w_iconst gz_188_14 (by decide) ?_
  refine w_istore_n (ls' := [(2, 151), (0, x1), (0, 0), (9, 0), (9, 0)]) gz_188_15 gm_188 rfl rfl rfl ?_
  refine w_iconst gz_188_16 (by decide) ?_
  refine w_istore_n (ls' := [(2, 151), (0, x1), (0, 0), (0, 1), (9, 0)]) gz_188_17 gm_188 rfl rfl rfl ?_
  have psJ : h235 151 7 = h 151 7 := ((my_up_role fh235 is_151 is_171 rfl).trans ((my_up_role fh233 is_151 is_168 rfl).trans (rfl : h 151 7 = h 151 7)))
  have npsJ : sm h235 = sm h := sm_eq (fun j => my_fr.at gh235 is_153 rfl) (fun j => my_fr.at gh235 is_154 rfl) (fun j => my_fr.at gh235 is_155 rfl)
  have ce236 : h235 151 7 = k151_7 := ((my_up_role fh235 is_151 is_171 rfl).trans ((my_up_role fh233 is_151 is_168 rfl).trans ek151_7.symm))
  have ce237 : h235 151 8 = 0 := ((my_up_role fh235 is_151 is_171 rfl).trans ((my_up_role fh233 is_151 is_168 rfl).trans cf))
  have a168 : ∀ j : Int, h235 168 j = h233 168 j := fun j => ((my_up_role fh235 is_168 is_171 rfl).trans (rfl : h233 168 j = h233 168 j))
  have a171 : ∀ j : Int, h235 171 j = h235 171 j := fun j => rfl
  have a172 : ∀ j : Int, h235 172 j = h 172 j := fun j => ((my_up_role fh235 is_172 is_171 rfl).trans ((my_up_role fh233 is_172 is_168 rfl).trans (rfl : h 172 j = h 172 j)))
  exact J18_0 (1003) (0) (1) (0) h235 (gh235) (by omega) (by omega) (by omega) (by omega) (((my_up_role fh235 is_151 is_171 rfl).trans ((my_up_role fh233 is_151 is_168 rfl).trans ek151_27.symm)).trans (by omega)) (((my_up_role fh235 is_151 is_171 rfl).trans ((my_up_role fh233 is_151 is_168 rfl).trans cf)).trans (by omega)) Tok_h235 Mq_h235 Wd9_h235 P6_h235 Ko_h235 Pz_h235 (by rw [a168]; first | exact k168 | exact k8_18_0) (by omega) (by first | (rw [a171]; exact pq_18_0) | (rw [a171, k13]; exact pop8_0) | (rw [a171, k46]; omega) | omega) (by omega) (by omega) (by first | (intro i i0 i7 il; exfalso; rw [a171, k13] at il; omega) | (intro i i0 i7 il; rw [a172]; exact fw_18_0 i i0 i7 (by have z := a171 x1; omega)) | exact (fun i i0 i7 il => fw2 i i0 i7 (by omega)) | omega) (by omega) (by first | (intro q; exfalso; omega) | exact (fun _ => fmI_0 (by omega) (by have z := a171 x1; omega) (by omega)) | exact (fun _ => fmI_s (fi_18_0 (by omega)) rfl (by omega) (by omega) (by omega) nb (by omega) (by omega) (by have z := a171 x1; omega) e17 pm_18_0.1 pm_18_0.2 (by omega) (by omega)) | omega) (by first | (intro q; exfalso; omega) | exact (fun _ => fmI_3 (fi_18_0 (by omega)) rfl (by omega) (by omega) (by omega) ib (by omega)) | exact (fun _ => fmI_e (fi_18_0 (by omega)) rfl (by omega) (by omega) (by omega) nb (by omega) (by omega) (by omega) (by have z := a171 x1; omega)) | exact (fun _ => fmI_1 (fi_18_0 (by omega)) rfl (by first | exact Or.inl ⟨by omega, by omega⟩ | exact Or.inr (Or.inl ⟨by omega, by omega, by omega⟩))) | (intro q; have z := fe_18_0 (by omega); exact z) | omega) (by first | (intro q; exfalso; omega) | exact (fun _ => FjI_0 (by omega) (by have z := a171 x1; omega)) | exact (fun _ => FjI_s (n := vm) (by have z2 := b171 x1; rw [show vm = h18_0 171 x1 by omega]; exact fj_18_0 (by omega)) (fun j q => (a172 j).trans ((my_up_ne f36 (by omega)).trans (c172 j))) ((a172 _).trans k36) (by omega) (by omega) (by have z := a171 x1; omega) (by omega)) | omega) (by omega)
end MYNClerks_endOrder4
