/-! contracts, printed by wip/gen/gy.py -/
section MYNModel_isWord_f1
theorem c_Model_isWord_f1 {l : Launch} {rho : Nat → Int32} {d : Nat} {h : my_H} {Q : my_H → my_V → Prop} {x1 : Int} (a1 : 0 ≤ x1) (b1 : x1 ≤ 11) (xf : Int) (cf : h 151 8 = xf) (cf1 : 1 ≤ xf) (cf2 : xf ≤ 16005) (k0 : 1 ≤ h 151 8 → h 151 8 ≤ 16005 → Q h (0, 0)) : wp l rho d 177 0 [(2, 151), (0, x1)] [] h Q := by
  refine w_aload_n gz_177_0 rfl ?_
  refine v_getI (j := 8) gz_177_1 rfl is_151 rd_10 rfl (fun v1 ev1 pv1 qv1 => ?_)
  have zv1 := ev1.trans cf
  refine w_ifne (t := 43) gz_177_4 rfl (fun u2 => ?_) (fun u2 => by exfalso; omega)
  refine w_iconst gz_177_43 (by decide) ?_
  have c3 := ev1.symm
  exact w_bret gz_177_44 gm_177 (by omega) (by omega) (k0 (by omega) (by omega))
theorem c_Model_isWord_f0 {l : Launch} {rho : Nat → Int32} {d : Nat} {h : my_H} {Q : my_H → my_V → Prop} {x1 : Int} (a1 : 0 ≤ x1) (b1 : x1 ≤ 11) (cf : h 151 8 = 0) (k0 : h 151 8 = 0 → Q h (0, 0)) (k1 : h 151 8 = 0 → h 153 (h 151 7) = 1 → h 155 (h 151 7) = h 156 x1 → Q h (0, 1)) : wp l rho d 177 0 [(2, 151), (0, x1)] [] h Q := by
  refine w_aload_n gz_177_0 rfl ?_
  refine v_getI (j := 8) gz_177_1 rfl is_151 rd_10 rfl (fun v1 ev1 pv1 qv1 => ?_)
  have zv1 := ev1.trans cf
  refine w_ifne (t := 43) gz_177_4 rfl (fun u2 => by exfalso; omega) (fun u2 => ?_)
  refine w_aload_n gz_177_7 rfl ?_
  refine w_getX (v := 153) gz_177_8 is_151 rd_10 rfl (by decide) rfl ?_
  refine w_aload_n gz_177_11 rfl ?_
  refine v_getI (j := 7) gz_177_12 rfl is_151 rd_10 rfl (fun v4 ev4 pv4 qv4 => ?_)
  refine w_iald gz_177_15 is_153 rd_52 (by omega) (by omega) (fun v5 ev5 pv5 qv5 => ?_)
  refine w_iconst gz_177_16 (by decide) ?_
  refine w_icne (t := 43) gz_177_17 rfl (fun u6 => ?_) (fun u6 => ?_)
  ·
    refine w_iconst gz_177_43 (by decide) ?_
    have c7 := ev1.symm
    exact w_bret gz_177_44 gm_177 (by omega) (by omega) (k0 (by omega))
  ·
    refine w_aload_n gz_177_20 rfl ?_
    refine w_getX (v := 155) gz_177_21 is_151 rd_10 rfl (by decide) rfl ?_
    refine w_aload_n gz_177_24 rfl ?_
    refine v_getI (j := 7) gz_177_25 rfl is_151 rd_10 rfl (fun v9 ev9 pv9 qv9 => ?_)
    have zv9 := ev9.trans ev4.symm
    refine w_lald gz_177_28 is_155 rd_54 (by omega) (by omega) (fun v10 ev10 pv10 => ?_)
    refine w_aload_n gz_177_29 rfl ?_
    refine w_getX (v := 156) gz_177_30 is_151 rd_10 rfl (by decide) rfl ?_
    refine w_iload_n gz_177_33 rfl ?_
    refine w_lald gz_177_34 is_156 rd_55 (by omega) (by omega) (fun v12 ev12 pv12 => ?_)
    refine w_lcmpE gz_177_35 (fun v13 pv13 qv13 xv13 => ?_)
    refine w_ifne (t := 43) gz_177_36 rfl (fun u14 => ?_) (fun u14 => ?_)
    ·
      refine w_iconst gz_177_43 (by decide) ?_
      have c15 := ev1.symm
      exact w_bret gz_177_44 gm_177 (by omega) (by omega) (k0 (by omega))
    ·
      refine w_iconst gz_177_39 (by decide) ?_
      refine w_goto (t := 44) gz_177_40 rfl ?_
      have c16 := ev1.symm
      exact w_bret gz_177_44 gm_177 (by omega) (by omega) (k1 (by omega) (by first | omega | (subst_vars; omega)) (by first | omega | (subst_vars; omega)))
theorem c_Model_isWord_fq {l : Launch} {rho : Nat → Int32} {d : Nat} {h : my_H} {Q : my_H → my_V → Prop} {x1 : Int} (a1 : 0 ≤ x1) (b1 : x1 ≤ 11) (k0 : 1 ≤ h 151 8 → h 151 8 ≤ 16005 → Q h (0, 0)) (k1 : h 151 8 = 0 → Q h (0, 0)) (k2 : h 151 8 = 0 → h 153 (h 151 7) = 1 → h 155 (h 151 7) = h 156 x1 → Q h (0, 1)) : wp l rho d 177 0 [(2, 151), (0, x1)] [] h Q := by
  refine w_aload_n gz_177_0 rfl ?_
  refine v_getI (j := 8) gz_177_1 rfl is_151 rd_10 rfl (fun v1 ev1 pv1 qv1 => ?_)
  refine w_ifne (t := 43) gz_177_4 rfl (fun u2 => ?_) (fun u2 => ?_)
  ·
    refine w_iconst gz_177_43 (by decide) ?_
    have c3 := ev1.symm
    exact w_bret gz_177_44 gm_177 (by omega) (by omega) (k0 (by omega) (by omega))
  ·
    refine w_aload_n gz_177_7 rfl ?_
    refine w_getX (v := 153) gz_177_8 is_151 rd_10 rfl (by decide) rfl ?_
    refine w_aload_n gz_177_11 rfl ?_
    refine v_getI (j := 7) gz_177_12 rfl is_151 rd_10 rfl (fun v5 ev5 pv5 qv5 => ?_)
    refine w_iald gz_177_15 is_153 rd_52 (by omega) (by omega) (fun v6 ev6 pv6 qv6 => ?_)
    refine w_iconst gz_177_16 (by decide) ?_
    refine w_icne (t := 43) gz_177_17 rfl (fun u7 => ?_) (fun u7 => ?_)
    ·
      refine w_iconst gz_177_43 (by decide) ?_
      have c8 := ev1.symm
      exact w_bret gz_177_44 gm_177 (by omega) (by omega) (k1 (by omega))
    ·
      refine w_aload_n gz_177_20 rfl ?_
      refine w_getX (v := 155) gz_177_21 is_151 rd_10 rfl (by decide) rfl ?_
      refine w_aload_n gz_177_24 rfl ?_
      refine v_getI (j := 7) gz_177_25 rfl is_151 rd_10 rfl (fun v10 ev10 pv10 qv10 => ?_)
      have zv10 := ev10.trans ev5.symm
      refine w_lald gz_177_28 is_155 rd_54 (by omega) (by omega) (fun v11 ev11 pv11 => ?_)
      refine w_aload_n gz_177_29 rfl ?_
      refine w_getX (v := 156) gz_177_30 is_151 rd_10 rfl (by decide) rfl ?_
      refine w_iload_n gz_177_33 rfl ?_
      refine w_lald gz_177_34 is_156 rd_55 (by omega) (by omega) (fun v13 ev13 pv13 => ?_)
      refine w_lcmpE gz_177_35 (fun v14 pv14 qv14 xv14 => ?_)
      refine w_ifne (t := 43) gz_177_36 rfl (fun u15 => ?_) (fun u15 => ?_)
      ·
        refine w_iconst gz_177_43 (by decide) ?_
        have c16 := ev1.symm
        exact w_bret gz_177_44 gm_177 (by omega) (by omega) (k1 (by omega))
      ·
        refine w_iconst gz_177_39 (by decide) ?_
        refine w_goto (t := 44) gz_177_40 rfl ?_
        have c17 := ev1.symm
        exact w_bret gz_177_44 gm_177 (by omega) (by omega) (k2 (by omega) (by first | omega | (subst_vars; omega)) (by first | omega | (subst_vars; omega)))
theorem c_Model_readFew_f0 {l : Launch} {rho : Nat → Int32} {d : Nat} {h : my_H} {Q : my_H → my_V → Prop} {x1 : Int} {wv : Int} (a1 : 36 ≤ x1) (b1 : x1 ≤ 41) (cf : h 151 8 = 0) (hwv : wv ≤ 5) (hwv0 : 0 ≤ wv) (n_Tok : Tok h) (n_Mq : Mq h wv) (hp : x1 = 36 + h 167 6) (k0 : ∀ (h' : my_H), my_fr [(10, 7), (10, 8), (67, -1), (70, -1), (71, -1)] h h' → h 151 7 ≤ h' 151 7 → Tok h' → Mq h' wv → Q h' (9, 0)) : wp l rho (d + 2) 188 0 [(2, 151), (0, x1), (9, 0), (9, 0), (9, 0)] [] h Q := by
  refine v_know (x := 151) (j := 7) (b := 7) rfl is_151 rd_10 rfl (fun k151_7 ek151_7 pk151_7 qk151_7 => ?_)
  refine v_know (x := 151) (j := 27) (b := 27) rfl is_151 rd_10 rfl (fun k151_27 ek151_27 pk151_27 qk151_27 => ?_)
  have J18_0 : ∀ (n : Nat) (p18_0 p18_1 p18_2 : Int) (h18_0 : my_H), my_fr [(10, 7), (10, 8), (67, -1), (70, -1), (71, -1)] h h18_0 → 0 ≤ p18_1 → p18_1 ≤ 1 → 0 ≤ p18_2 → p18_2 ≤ 16005 → h18_0 151 27 = k151_27 → h18_0 151 8 = p18_2 → Tok h18_0 → Mq h18_0 wv → h18_0 167 6 = h 167 6 → h18_0 168 x1 = 3 → 0 ≤ p18_0 ∧ p18_0 ≤ 255 → pop8 p18_0 = h18_0 171 x1 → h 151 7 ≤ h18_0 151 7 → (∀ i : Int, 0 ≤ i → i ≤ 7 → i < h18_0 171 x1 → h18_0 172 (8 * x1 + i) < k151_27) → 1002 - h18_0 151 7 + p18_1 ≤ (n : Int) → wp l rho (d + 2) 188 18 [(2, 151), (0, x1), (0, p18_0), (0, p18_1), (9, 0)] [] h18_0 Q := by
    intro n
    induction n with
    | zero => intro p18_0 p18_1 p18_2 h18_0 gh_18_0 q0_18_0 q1_18_0 q2_18_0 q3_18_0 c151_27_18_0 c151_8_18_0 n_Tok_18_0 n_Mq_18_0 n_P6_18_0 k8_18_0 pm_18_0 pq_18_0 am_18_0 fw_18_0 hm_18_0; exfalso; omega
    | succ n ih_18_0 =>
      intro p18_0 p18_1 p18_2 h18_0 gh_18_0 q0_18_0 q1_18_0 q2_18_0 q3_18_0 c151_27_18_0 c151_8_18_0 n_Tok_18_0 n_Mq_18_0 n_P6_18_0 k8_18_0 pm_18_0 pq_18_0 am_18_0 fw_18_0 hm_18_0
      refine w_iload_n gz_188_18 rfl ?_
      refine w_ifeq (t := 169) gz_188_19 rfl (fun u1 => ?_) (fun u1 => ?_)
      ·
        have ce2 : h18_0 151 27 = k151_27 := c151_27_18_0
        have a168 : ∀ j : Int, h18_0 168 j = h18_0 168 j := fun _ => rfl
        have a171 : ∀ j : Int, h18_0 171 j = h18_0 171 j := fun _ => rfl
        have a172 : ∀ j : Int, h18_0 172 j = h18_0 172 j := fun _ => rfl
        exact w_vret gz_188_169 gm_188 (k0 h18_0 (gh_18_0) (by first | omega | (refine ⟨fun q => ?_, fun q => ?_⟩ <;> (rw [a168, k8_18_0] at q; omega)) | (refine ⟨fun q => ?_, fun q => ?_, fun q i i0 i7 il => ?_⟩ <;> first | (exfalso; rw [a168, k8_18_0] at q; omega) | (rw [a171] at il; rw [a172]; have z := fw_18_0 i i0 i7 il; omega))) n_Tok_18_0 n_Mq_18_0)
      ·
        refine w_aload_n gz_188_22 rfl ?_
        refine v_getI (j := 8) gz_188_23 rfl is_151 rd_10 rfl (fun v3 ev3 pv3 qv3 => ?_)
        have zv3 := ev3.trans c151_8_18_0
        refine w_ifne (t := 83) gz_188_26 rfl (fun u4 => ?_) (fun u4 => ?_)
        ·
          refine w_aload_n gz_188_83 rfl ?_
          refine w_aload_n gz_188_84 rfl ?_
          refine v_getI (j := 27) gz_188_85 rfl is_151 rd_10 rfl (fun v5 ev5 pv5 qv5 => ?_)
          have zv5 := ev5.trans c151_27_18_0
          refine w_iconst gz_188_88 (by decide) ?_
          refine w_isub gz_188_89 ⟨by omega, by omega⟩ ?_
          have ce6 : h18_0 151 27 = v5 := ev5.symm
          refine w_inv (k := 0) (as := [(0, (v5 - 1))]) (r := []) (x := 151) (ls0 := [(2, 151), (0, (v5 - 1))]) gz_188_90 gm_187 rfl is_151 rd_10 rfl rfl rfl rfl rfl (c_Model_takeNumber2_f1 (d := d) (x1 := (v5 - 1)) (by omega) (by omega) (v3) (ev3.symm) (by omega) (by omega) n_Tok_18_0 (fun w7 w8 xp9 Tok_h18_0t10 => ?_))
          show wp l rho (d + 2) 188 93 [(2, 151), (0, x1), (0, p18_0), (0, p18_1), (9, 0)] [(0, 0)] h18_0 Q
          refine w_istore (ls' := [(2, 151), (0, x1), (0, p18_0), (0, p18_1), (0, 0)]) gz_188_93 gm_188 rfl rfl rfl ?_
          refine w_aload_n gz_188_95 rfl ?_
          refine v_getI (j := 8) gz_188_96 rfl is_151 rd_10 rfl (fun v11 ev11 pv11 qv11 => ?_)
          have zv11 := ev11.trans ev3.symm
          refine w_ifne (t := 106) gz_188_99 rfl (fun u12 => ?_) (fun u12 => by exfalso; omega)
          refine w_iconst gz_188_106 (by decide) ?_
          refine w_istore_n (ls' := [(2, 151), (0, x1), (0, p18_0), (0, 0), (0, 0)]) gz_188_107 gm_188 rfl rfl rfl ?_
          refine w_iload_n gz_188_108 rfl ?_
          refine w_ifeq (t := 166) gz_188_109 rfl (fun u13 => ?_) (fun u13 => by exfalso; omega)
          refine w_goto (t := 18) gz_188_166 rfl ?_
          have a168 : ∀ j : Int, h18_0 168 j = h18_0 168 j := fun _ => rfl
          have a171 : ∀ j : Int, h18_0 171 j = h18_0 171 j := fun _ => rfl
          have a172 : ∀ j : Int, h18_0 172 j = h18_0 172 j := fun _ => rfl
          refine w_weak (ls' := [(2, 151), (0, x1), (0, p18_0), (0, 0), (9, 0)]) (wk_e (wk_e (wk_e (wk_e (wk_9 wk_n))))) ?_
          exact ih_18_0 (p18_0) (0) (v11) h18_0 (gh_18_0) (by omega) (by omega) (by omega) (by omega) (ev5.symm.trans (by omega)) (ev11.symm.trans (by omega)) Tok_h18_0t10 n_Mq_18_0 n_P6_18_0 (by rw [a168]; first | exact k168 | exact k8_18_0) (by omega) (by first | (rw [a171]; exact pq_18_0) | (rw [a171, k13]; exact pop8_0) | (rw [a171, k46]; omega)) (by omega) (by first | (intro i i0 i7 il; exfalso; rw [a171, k13] at il; omega) | (intro i i0 i7 il; rw [a172]; exact fw_18_0 i i0 i7 (by have z := a171 x1; omega)) | (intro i i0 i7 il; rw [a172]; have z := a171 x1; have z2 := b171 x1; rcases (by omega : i = vm ∨ i < vm) with q | q <;> first | (rw [q, k36]; omega) | (rw [my_up_ne f36 (by omega), c172]; exact fw_18_0 i i0 i7 (by omega)))) (by omega)
        ·
          refine w_aload_n gz_188_29 rfl ?_
          refine w_getX (v := 153) gz_188_30 is_151 rd_10 rfl (by decide) rfl ?_
          refine w_aload_n gz_188_33 rfl ?_
          refine v_getI (j := 7) gz_188_34 rfl is_151 rd_10 rfl (fun v15 ev15 pv15 qv15 => ?_)
          refine w_iald gz_188_37 is_153 rd_52 (by omega) (by omega) (fun v16 ev16 pv16 qv16 => ?_)
          refine w_iconst gz_188_38 (by decide) ?_
          refine w_icne (t := 83) gz_188_39 rfl (fun u17 => ?_) (fun u17 => ?_)
          ·
            refine w_aload_n gz_188_83 rfl ?_
            refine w_aload_n gz_188_84 rfl ?_
            refine v_getI (j := 27) gz_188_85 rfl is_151 rd_10 rfl (fun v18 ev18 pv18 qv18 => ?_)
            have zv18 := ev18.trans c151_27_18_0
            refine w_iconst gz_188_88 (by decide) ?_
            refine w_isub gz_188_89 ⟨by omega, by omega⟩ ?_
            have ce19 : h18_0 151 7 = v15 := ev15.symm
            have ce20 : h18_0 151 27 = v18 := ev18.symm
            refine w_inv (k := 0) (as := [(0, (v18 - 1))]) (r := []) (x := 151) (ls0 := [(2, 151), (0, (v18 - 1))]) gz_188_90 gm_187 rfl is_151 rd_10 rfl rfl rfl rfl rfl (c_Model_takeNumber2_f0 (d := d) (x1 := (v18 - 1)) (by omega) (by omega) (ev3.symm.trans (by omega)) n_Tok_18_0 (fun h21 frh21 w22 w23 xp24 Tok_h21t25 => ?_) (fun h26 v27 frh26 w28 w29 w30 w31 w32 xp33 xp34 xp35 xp36 xp37 Tok_h26t38 => ?_))
            ·
              have gh21 : my_fr [(10, 7), (10, 8), (67, -1), (70, -1), (71, -1)] h h21 := my_fr.tr gh_18_0 (frh21.mo rfl)
              have Mq_h21 : Mq h21 wv := Mq_ag (my_ag.fr frh21 rfl) n_Mq_18_0
              have P6_h21 : h21 167 6 = h 167 6 := P6_ag (my_ag.fr frh21 rfl) n_P6_18_0
              show wp l rho (d + 2) 188 93 [(2, 151), (0, x1), (0, p18_0), (0, p18_1), (9, 0)] [(0, 0)] h21 Q
              refine w_istore (ls' := [(2, 151), (0, x1), (0, p18_0), (0, p18_1), (0, 0)]) gz_188_93 gm_188 rfl rfl rfl ?_
              refine w_aload_n gz_188_95 rfl ?_
              refine v_getI (j := 8) gz_188_96 rfl is_151 rd_10 rfl (fun v39 ev39 pv39 qv39 => ?_)
              have zv39 := ev39.trans (rfl : h21 151 8 = h21 151 8)
              refine w_ifne (t := 106) gz_188_99 rfl (fun u40 => ?_) (fun u40 => by exfalso; omega)
              refine w_iconst gz_188_106 (by decide) ?_
              refine w_istore_n (ls' := [(2, 151), (0, x1), (0, p18_0), (0, 0), (0, 0)]) gz_188_107 gm_188 rfl rfl rfl ?_
              refine w_iload_n gz_188_108 rfl ?_
              refine w_ifeq (t := 166) gz_188_109 rfl (fun u41 => ?_) (fun u41 => by exfalso; omega)
              refine w_goto (t := 18) gz_188_166 rfl ?_
              have a168 : ∀ j : Int, h21 168 j = h18_0 168 j := fun j => ((my_fr.at frh21 is_168 rfl).trans (rfl : h18_0 168 j = h18_0 168 j))
              have a171 : ∀ j : Int, h21 171 j = h18_0 171 j := fun j => ((my_fr.at frh21 is_171 rfl).trans (rfl : h18_0 171 j = h18_0 171 j))
              have a172 : ∀ j : Int, h21 172 j = h18_0 172 j := fun j => ((my_fr.at frh21 is_172 rfl).trans (rfl : h18_0 172 j = h18_0 172 j))
              refine w_weak (ls' := [(2, 151), (0, x1), (0, p18_0), (0, 0), (9, 0)]) (wk_e (wk_e (wk_e (wk_e (wk_9 wk_n))))) ?_
              exact ih_18_0 (p18_0) (0) (v39) h21 (gh21) (by omega) (by omega) (by omega) (by omega) (((my_fr.at frh21 is_151 rfl).trans ev18.symm).trans (by omega)) (ev39.symm.trans (by omega)) Tok_h21t25 Mq_h21 P6_h21 (by rw [a168]; first | exact k168 | exact k8_18_0) (by omega) (by first | (rw [a171]; exact pq_18_0) | (rw [a171, k13]; exact pop8_0) | (rw [a171, k46]; omega)) (by omega) (by first | (intro i i0 i7 il; exfalso; rw [a171, k13] at il; omega) | (intro i i0 i7 il; rw [a172]; exact fw_18_0 i i0 i7 (by have z := a171 x1; omega)) | (intro i i0 i7 il; rw [a172]; have z := a171 x1; have z2 := b171 x1; rcases (by omega : i = vm ∨ i < vm) with q | q <;> first | (rw [q, k36]; omega) | (rw [my_up_ne f36 (by omega), c172]; exact fw_18_0 i i0 i7 (by omega)))) (by omega)
            ·
              have gh26 : my_fr [(10, 7), (10, 8), (67, -1), (70, -1), (71, -1)] h h26 := my_fr.tr gh_18_0 (frh26.mo rfl)
              have Mq_h26 : Mq h26 wv := Mq_ag (my_ag.fr frh26 rfl) n_Mq_18_0
              have P6_h26 : h26 167 6 = h 167 6 := P6_ag (my_ag.fr frh26 rfl) n_P6_18_0
              show wp l rho (d + 2) 188 93 [(2, 151), (0, x1), (0, p18_0), (0, p18_1), (9, 0)] [(0, v27)] h26 Q
              refine w_istore (ls' := [(2, 151), (0, x1), (0, p18_0), (0, p18_1), (0, v27)]) gz_188_93 gm_188 rfl rfl rfl ?_
              refine w_aload_n gz_188_95 rfl ?_
              refine v_getI (j := 8) gz_188_96 rfl is_151 rd_10 rfl (fun v42 ev42 pv42 qv42 => ?_)
              have zv42 := ev42.trans w32
              refine w_ifne (t := 106) gz_188_99 rfl (fun u43 => by exfalso; omega) (fun u43 => ?_)
              refine w_iconst gz_188_102 (by decide) ?_
              refine w_goto (t := 107) gz_188_103 rfl ?_
              refine w_istore_n (ls' := [(2, 151), (0, x1), (0, p18_0), (0, 1), (0, v27)]) gz_188_107 gm_188 rfl rfl rfl ?_
              refine w_iload_n gz_188_108 rfl ?_
              refine w_ifeq (t := 166) gz_188_109 rfl (fun u44 => by exfalso; omega) (fun u44 => ?_)
              refine w_iload_n gz_188_112 rfl ?_
              refine w_iconst gz_188_113 (by decide) ?_
              refine w_iload gz_188_114 rfl ?_
              refine w_ishlX gz_188_116 (fun v45 ev45 pv45 qv45 => ?_)
              refine w_iorX gz_188_117 (fun v46 ev46 pv46 qv46 => ?_)
              refine w_istore_n (ls' := [(2, 151), (0, x1), (0, v46), (0, 1), (0, v27)]) gz_188_118 gm_188 rfl rfl rfl ?_
              refine w_aload_n gz_188_119 rfl ?_
              refine w_getX (v := 172) gz_188_120 is_151 rd_10 rfl (by decide) rfl ?_
              refine w_bipush gz_188_123 (by decide) ?_
              refine w_iload_n gz_188_125 rfl ?_
              refine w_imul gz_188_126 ⟨by omega, by omega⟩ ?_
              refine w_aload_n gz_188_127 rfl ?_
              refine w_getX (v := 171) gz_188_128 is_151 rd_10 rfl (by decide) rfl ?_
              refine w_iload_n gz_188_131 rfl ?_
              refine w_iald gz_188_132 is_171 rd_70 (by omega) (by omega) (fun v49 ev49 pv49 qv49 => ?_)
              have b171 : ∀ j : Int, h26 171 j = h18_0 171 j := fun j => ((my_fr.at frh26 is_171 rfl).trans (rfl : h18_0 171 j = h18_0 171 j))
              have f7 : v49 ≤ 7 := by have q := b171 x1; omega
              obtain ⟨vm, em⟩ : ∃ vm : Int, vm = v49 := ⟨_, rfl⟩
              have c172 : ∀ j : Int, h26 172 j = h18_0 172 j := fun j => ((my_fr.at frh26 is_172 rfl).trans (rfl : h18_0 172 j = h18_0 172 j))
              refine w_iadd gz_188_133 ⟨by omega, by omega⟩ ?_
              refine w_iload gz_188_134 rfl ?_
              have hi50 : 0 ≤ v27 := by omega
              have hi51 : v27 ≤ 7 := by omega
              have hi52 : 0 ≤ ((8 * x1) + v49) := by omega
              have hi53 : ((8 * x1) + v49) ≤ 335 := by omega
              refine w_iast gz_188_136 is_172 rd_71 (by omega) (by omega) (by omega) (by omega) (fun h54 fh54 => ?_)
              have gh54 : my_fr [(10, 7), (10, 8), (67, -1), (70, -1), (71, -1)] h h54 := my_fr.up gh26 is_172 fh54 rfl
              have Mq_h54 : Mq h54 wv := Mq_v (a := 172) hwv (by decide) (by omega) fh54 Mq_h26
              have P6_h54 : h54 167 6 = h 167 6 := P6_ag (my_ag.up fh54 is_172 rfl) P6_h26
              have Tok_h54 : Tok h54 := Tok_ag (my_ag.up fh54 is_172 rfl) Tok_h26t38
              have f36 := fh54
              have k36 : h54 172 (8 * x1 + vm) = v27 := by rw [show 8 * x1 + vm = _ from by rw [em]]; exact my_up_self fh54
              refine w_aload_n gz_188_137 rfl ?_
              refine w_getX (v := 171) gz_188_138 is_151 rd_10 rfl (by decide) rfl ?_
              refine w_iload_n gz_188_141 rfl ?_
              refine w_dup2 gz_188_142 rfl rfl ?_
              refine w_iald gz_188_143 is_171 rd_70 (by omega) (by omega) (fun v56 ev56 pv56 qv56 => ?_)
              have zv56 := ev56.trans ((my_up_role fh54 is_171 is_172 rfl).trans ev49.symm)
              have c171 : ∀ j : Int, h54 171 j = h18_0 171 j := fun j => ((my_up_role fh54 is_171 is_172 rfl).trans ((my_fr.at frh26 is_171 rfl).trans (rfl : h18_0 171 j = h18_0 171 j)))
              have f8 : v56 ≤ 7 := by have q := c171 x1; omega
              refine w_iconst gz_188_144 (by decide) ?_
              refine w_iadd gz_188_145 ⟨by omega, by omega⟩ ?_
              have hi57 : 0 ≤ (v56 + 1) := by omega
              have hi58 : (v56 + 1) ≤ 8 := by omega
              refine w_iast gz_188_146 is_171 rd_70 (by omega) (by omega) (by omega) (by omega) (fun h59 fh59 => ?_)
              have gh59 : my_fr [(10, 7), (10, 8), (67, -1), (70, -1), (71, -1)] h h59 := my_fr.up gh54 is_171 fh59 rfl
              have Mq_h59 : Mq h59 wv := Mq_u (a := 171) hwv (by decide) (by omega) fh59 Mq_h54
              have P6_h59 : h59 167 6 = h 167 6 := P6_ag (my_ag.up fh59 is_171 rfl) P6_h54
              have Tok_h59 : Tok h59 := Tok_ag (my_ag.up fh59 is_171 rfl) Tok_h54
              have k46 := my_up_self fh59
              refine w_aload_n gz_188_147 rfl ?_
              refine w_getX (v := 153) gz_188_148 is_151 rd_10 rfl (by decide) rfl ?_
              refine w_aload_n gz_188_151 rfl ?_
              refine v_getI (j := 7) gz_188_152 rfl is_151 rd_10 rfl (fun v61 ev61 pv61 qv61 => ?_)
              have zv61 := ev61.trans ((my_up_role fh59 is_151 is_171 rfl).trans ((my_up_role fh54 is_151 is_172 rfl).trans (rfl : h26 151 7 = h26 151 7)))
              refine w_iald gz_188_155 is_153 rd_52 (by omega) (by omega) (fun v62 ev62 pv62 qv62 => ?_)
              refine w_iconst gz_188_156 (by decide) ?_
              refine w_icne (t := 164) gz_188_157 rfl (fun u63 => ?_) (fun u63 => ?_)
              ·
                refine w_iconst gz_188_164 (by decide) ?_
                refine w_istore_n (ls' := [(2, 151), (0, x1), (0, v46), (0, 0), (0, v27)]) gz_188_165 gm_188 rfl rfl rfl ?_
                refine w_goto (t := 18) gz_188_166 rfl ?_
                have ce64 : h59 151 7 = v61 := ev61.symm
                have a168 : ∀ j : Int, h59 168 j = h18_0 168 j := fun j => ((my_up_role fh59 is_168 is_171 rfl).trans ((my_up_role fh54 is_168 is_172 rfl).trans ((my_fr.at frh26 is_168 rfl).trans (rfl : h18_0 168 j = h18_0 168 j))))
                have a171 : ∀ j : Int, h59 171 j = h18_0 171 j := fun j => ((my_up_ne fh59 (by omega)).trans ((my_up_role fh54 is_171 is_172 rfl).trans ((my_fr.at frh26 is_171 rfl).trans (rfl : h18_0 171 j = h18_0 171 j))))
                have a172 : ∀ j : Int, h59 172 j = h18_0 172 j := fun j => ((my_up_role fh59 is_172 is_171 rfl).trans ((my_up_ne fh54 (by omega)).trans ((my_fr.at frh26 is_172 rfl).trans (rfl : h18_0 172 j = h18_0 172 j))))
                refine w_weak (ls' := [(2, 151), (0, x1), (0, v46), (0, 0), (9, 0)]) (wk_e (wk_e (wk_e (wk_e (wk_9 wk_n))))) ?_
                exact ih_18_0 (v46) (0) (v42) h59 (gh59) (by omega) (by omega) (by omega) (by omega) (((my_up_role fh59 is_151 is_171 rfl).trans ((my_up_role fh54 is_151 is_172 rfl).trans ((my_fr.at frh26 is_151 rfl).trans ev18.symm))).trans (by omega)) (((my_up_role fh59 is_151 is_171 rfl).trans ((my_up_role fh54 is_151 is_172 rfl).trans ev42.symm)).trans (by omega)) Tok_h59 Mq_h59 P6_h59 (by rw [a168]; first | exact k168 | exact k8_18_0) (by omega) (by first | (rw [a171]; exact pq_18_0) | (rw [a171, k13]; exact pop8_0) | (rw [a171, k46]; omega)) (by omega) (by first | (intro i i0 i7 il; exfalso; rw [a171, k13] at il; omega) | (intro i i0 i7 il; rw [a172]; exact fw_18_0 i i0 i7 (by have z := a171 x1; omega)) | (intro i i0 i7 il; rw [a172]; have z := a171 x1; have z2 := b171 x1; rcases (by omega : i = vm ∨ i < vm) with q | q <;> first | (rw [q, k36]; omega) | (rw [my_up_ne f36 (by omega), c172]; exact fw_18_0 i i0 i7 (by omega)))) (by omega)
              ·
                refine w_iconst gz_188_160 (by decide) ?_
                refine w_goto (t := 165) gz_188_161 rfl ?_
                refine w_istore_n (ls' := [(2, 151), (0, x1), (0, v46), (0, 1), (0, v27)]) gz_188_165 gm_188 rfl rfl rfl ?_
                refine w_goto (t := 18) gz_188_166 rfl ?_
                have ce65 : h59 151 7 = v61 := ev61.symm
                have a168 : ∀ j : Int, h59 168 j = h18_0 168 j := fun j => ((my_up_role fh59 is_168 is_171 rfl).trans ((my_up_role fh54 is_168 is_172 rfl).trans ((my_fr.at frh26 is_168 rfl).trans (rfl : h18_0 168 j = h18_0 168 j))))
                have a171 : ∀ j : Int, h59 171 j = h18_0 171 j := fun j => ((my_up_ne fh59 (by omega)).trans ((my_up_role fh54 is_171 is_172 rfl).trans ((my_fr.at frh26 is_171 rfl).trans (rfl : h18_0 171 j = h18_0 171 j))))
                have a172 : ∀ j : Int, h59 172 j = h18_0 172 j := fun j => ((my_up_role fh59 is_172 is_171 rfl).trans ((my_up_ne fh54 (by omega)).trans ((my_fr.at frh26 is_172 rfl).trans (rfl : h18_0 172 j = h18_0 172 j))))
                refine w_weak (ls' := [(2, 151), (0, x1), (0, v46), (0, 1), (9, 0)]) (wk_e (wk_e (wk_e (wk_e (wk_9 wk_n))))) ?_
                exact ih_18_0 (v46) (1) (v42) h59 (gh59) (by omega) (by omega) (by omega) (by omega) (((my_up_role fh59 is_151 is_171 rfl).trans ((my_up_role fh54 is_151 is_172 rfl).trans ((my_fr.at frh26 is_151 rfl).trans ev18.symm))).trans (by omega)) (((my_up_role fh59 is_151 is_171 rfl).trans ((my_up_role fh54 is_151 is_172 rfl).trans ev42.symm)).trans (by omega)) Tok_h59 Mq_h59 P6_h59 (by rw [a168]; first | exact k168 | exact k8_18_0) (by omega) (by first | (rw [a171]; exact pq_18_0) | (rw [a171, k13]; exact pop8_0) | (rw [a171, k46]; omega)) (by omega) (by first | (intro i i0 i7 il; exfalso; rw [a171, k13] at il; omega) | (intro i i0 i7 il; rw [a172]; exact fw_18_0 i i0 i7 (by have z := a171 x1; omega)) | (intro i i0 i7 il; rw [a172]; have z := a171 x1; have z2 := b171 x1; rcases (by omega : i = vm ∨ i < vm) with q | q <;> first | (rw [q, k36]; omega) | (rw [my_up_ne f36 (by omega), c172]; exact fw_18_0 i i0 i7 (by omega)))) (by omega)
          ·
            refine w_aload_n gz_188_42 rfl ?_
            refine w_getX (v := 155) gz_188_43 is_151 rd_10 rfl (by decide) rfl ?_
            refine w_aload_n gz_188_46 rfl ?_
            refine v_getI (j := 7) gz_188_47 rfl is_151 rd_10 rfl (fun v67 ev67 pv67 qv67 => ?_)
            have zv67 := ev67.trans ev15.symm
            refine w_lald gz_188_50 is_155 rd_54 (by omega) (by omega) (fun v68 ev68 pv68 => ?_)
            refine w_aload_n gz_188_51 rfl ?_
            refine v_getI (j := 27) gz_188_52 rfl is_151 rd_10 rfl (fun v69 ev69 pv69 qv69 => ?_)
            have zv69 := ev69.trans c151_27_18_0
            refine w_i2l gz_188_55 ?_
            refine w_lcmpE gz_188_56 (fun v70 pv70 qv70 xv70 => ?_)
            refine w_ifge (t := 83) gz_188_57 rfl (fun u71 => ?_) (fun u71 => ?_)
            ·
              refine w_aload_n gz_188_83 rfl ?_
              refine w_aload_n gz_188_84 rfl ?_
              refine v_getI (j := 27) gz_188_85 rfl is_151 rd_10 rfl (fun v72 ev72 pv72 qv72 => ?_)
              have zv72 := ev72.trans ev69.symm
              refine w_iconst gz_188_88 (by decide) ?_
              refine w_isub gz_188_89 ⟨by omega, by omega⟩ ?_
              have ce73 : h18_0 151 7 = v67 := ev67.symm
              have ce74 : h18_0 151 27 = v72 := ev72.symm
              refine w_inv (k := 0) (as := [(0, (v72 - 1))]) (r := []) (x := 151) (ls0 := [(2, 151), (0, (v72 - 1))]) gz_188_90 gm_187 rfl is_151 rd_10 rfl rfl rfl rfl rfl (c_Model_takeNumber2_f0 (d := d) (x1 := (v72 - 1)) (by omega) (by omega) (ev3.symm.trans (by omega)) n_Tok_18_0 (fun h75 frh75 w76 w77 xp78 Tok_h75t79 => ?_) (fun h80 v81 frh80 w82 w83 w84 w85 w86 xp87 xp88 xp89 xp90 xp91 Tok_h80t92 => ?_))
              ·
                have gh75 : my_fr [(10, 7), (10, 8), (67, -1), (70, -1), (71, -1)] h h75 := my_fr.tr gh_18_0 (frh75.mo rfl)
                have Mq_h75 : Mq h75 wv := Mq_ag (my_ag.fr frh75 rfl) n_Mq_18_0
                have P6_h75 : h75 167 6 = h 167 6 := P6_ag (my_ag.fr frh75 rfl) n_P6_18_0
                show wp l rho (d + 2) 188 93 [(2, 151), (0, x1), (0, p18_0), (0, p18_1), (9, 0)] [(0, 0)] h75 Q
                refine w_istore (ls' := [(2, 151), (0, x1), (0, p18_0), (0, p18_1), (0, 0)]) gz_188_93 gm_188 rfl rfl rfl ?_
                refine w_aload_n gz_188_95 rfl ?_
                refine v_getI (j := 8) gz_188_96 rfl is_151 rd_10 rfl (fun v93 ev93 pv93 qv93 => ?_)
                have zv93 := ev93.trans (rfl : h75 151 8 = h75 151 8)
                refine w_ifne (t := 106) gz_188_99 rfl (fun u94 => ?_) (fun u94 => by exfalso; omega)
                refine w_iconst gz_188_106 (by decide) ?_
                refine w_istore_n (ls' := [(2, 151), (0, x1), (0, p18_0), (0, 0), (0, 0)]) gz_188_107 gm_188 rfl rfl rfl ?_
                refine w_iload_n gz_188_108 rfl ?_
                refine w_ifeq (t := 166) gz_188_109 rfl (fun u95 => ?_) (fun u95 => by exfalso; omega)
                refine w_goto (t := 18) gz_188_166 rfl ?_
                have a168 : ∀ j : Int, h75 168 j = h18_0 168 j := fun j => ((my_fr.at frh75 is_168 rfl).trans (rfl : h18_0 168 j = h18_0 168 j))
                have a171 : ∀ j : Int, h75 171 j = h18_0 171 j := fun j => ((my_fr.at frh75 is_171 rfl).trans (rfl : h18_0 171 j = h18_0 171 j))
                have a172 : ∀ j : Int, h75 172 j = h18_0 172 j := fun j => ((my_fr.at frh75 is_172 rfl).trans (rfl : h18_0 172 j = h18_0 172 j))
                refine w_weak (ls' := [(2, 151), (0, x1), (0, p18_0), (0, 0), (9, 0)]) (wk_e (wk_e (wk_e (wk_e (wk_9 wk_n))))) ?_
                exact ih_18_0 (p18_0) (0) (v93) h75 (gh75) (by omega) (by omega) (by omega) (by omega) (((my_fr.at frh75 is_151 rfl).trans ev72.symm).trans (by omega)) (ev93.symm.trans (by omega)) Tok_h75t79 Mq_h75 P6_h75 (by rw [a168]; first | exact k168 | exact k8_18_0) (by omega) (by first | (rw [a171]; exact pq_18_0) | (rw [a171, k13]; exact pop8_0) | (rw [a171, k46]; omega)) (by omega) (by first | (intro i i0 i7 il; exfalso; rw [a171, k13] at il; omega) | (intro i i0 i7 il; rw [a172]; exact fw_18_0 i i0 i7 (by have z := a171 x1; omega)) | (intro i i0 i7 il; rw [a172]; have z := a171 x1; have z2 := b171 x1; rcases (by omega : i = vm ∨ i < vm) with q | q <;> first | (rw [q, k36]; omega) | (rw [my_up_ne f36 (by omega), c172]; exact fw_18_0 i i0 i7 (by omega)))) (by omega)
              ·
                have gh80 : my_fr [(10, 7), (10, 8), (67, -1), (70, -1), (71, -1)] h h80 := my_fr.tr gh_18_0 (frh80.mo rfl)
                have Mq_h80 : Mq h80 wv := Mq_ag (my_ag.fr frh80 rfl) n_Mq_18_0
                have P6_h80 : h80 167 6 = h 167 6 := P6_ag (my_ag.fr frh80 rfl) n_P6_18_0
                show wp l rho (d + 2) 188 93 [(2, 151), (0, x1), (0, p18_0), (0, p18_1), (9, 0)] [(0, v81)] h80 Q
                refine w_istore (ls' := [(2, 151), (0, x1), (0, p18_0), (0, p18_1), (0, v81)]) gz_188_93 gm_188 rfl rfl rfl ?_
                refine w_aload_n gz_188_95 rfl ?_
                refine v_getI (j := 8) gz_188_96 rfl is_151 rd_10 rfl (fun v96 ev96 pv96 qv96 => ?_)
                have zv96 := ev96.trans w86
                refine w_ifne (t := 106) gz_188_99 rfl (fun u97 => by exfalso; omega) (fun u97 => ?_)
                refine w_iconst gz_188_102 (by decide) ?_
                refine w_goto (t := 107) gz_188_103 rfl ?_
                refine w_istore_n (ls' := [(2, 151), (0, x1), (0, p18_0), (0, 1), (0, v81)]) gz_188_107 gm_188 rfl rfl rfl ?_
                refine w_iload_n gz_188_108 rfl ?_
                refine w_ifeq (t := 166) gz_188_109 rfl (fun u98 => by exfalso; omega) (fun u98 => ?_)
                refine w_iload_n gz_188_112 rfl ?_
                refine w_iconst gz_188_113 (by decide) ?_
                refine w_iload gz_188_114 rfl ?_
                refine w_ishlX gz_188_116 (fun v99 ev99 pv99 qv99 => ?_)
                refine w_iorX gz_188_117 (fun v100 ev100 pv100 qv100 => ?_)
                refine w_istore_n (ls' := [(2, 151), (0, x1), (0, v100), (0, 1), (0, v81)]) gz_188_118 gm_188 rfl rfl rfl ?_
                refine w_aload_n gz_188_119 rfl ?_
                refine w_getX (v := 172) gz_188_120 is_151 rd_10 rfl (by decide) rfl ?_
                refine w_bipush gz_188_123 (by decide) ?_
                refine w_iload_n gz_188_125 rfl ?_
                refine w_imul gz_188_126 ⟨by omega, by omega⟩ ?_
                refine w_aload_n gz_188_127 rfl ?_
                refine w_getX (v := 171) gz_188_128 is_151 rd_10 rfl (by decide) rfl ?_
                refine w_iload_n gz_188_131 rfl ?_
                refine w_iald gz_188_132 is_171 rd_70 (by omega) (by omega) (fun v103 ev103 pv103 qv103 => ?_)
                have b171 : ∀ j : Int, h80 171 j = h18_0 171 j := fun j => ((my_fr.at frh80 is_171 rfl).trans (rfl : h18_0 171 j = h18_0 171 j))
                have f7 : v103 ≤ 7 := by have q := b171 x1; omega
                obtain ⟨vm, em⟩ : ∃ vm : Int, vm = v103 := ⟨_, rfl⟩
                have c172 : ∀ j : Int, h80 172 j = h18_0 172 j := fun j => ((my_fr.at frh80 is_172 rfl).trans (rfl : h18_0 172 j = h18_0 172 j))
                refine w_iadd gz_188_133 ⟨by omega, by omega⟩ ?_
                refine w_iload gz_188_134 rfl ?_
                have hi104 : 0 ≤ v81 := by omega
                have hi105 : v81 ≤ 7 := by omega
                have hi106 : 0 ≤ ((8 * x1) + v103) := by omega
                have hi107 : ((8 * x1) + v103) ≤ 335 := by omega
                refine w_iast gz_188_136 is_172 rd_71 (by omega) (by omega) (by omega) (by omega) (fun h108 fh108 => ?_)
                have gh108 : my_fr [(10, 7), (10, 8), (67, -1), (70, -1), (71, -1)] h h108 := my_fr.up gh80 is_172 fh108 rfl
                have Mq_h108 : Mq h108 wv := Mq_v (a := 172) hwv (by decide) (by omega) fh108 Mq_h80
                have P6_h108 : h108 167 6 = h 167 6 := P6_ag (my_ag.up fh108 is_172 rfl) P6_h80
                have Tok_h108 : Tok h108 := Tok_ag (my_ag.up fh108 is_172 rfl) Tok_h80t92
                have f36 := fh108
                have k36 : h108 172 (8 * x1 + vm) = v81 := by rw [show 8 * x1 + vm = _ from by rw [em]]; exact my_up_self fh108
                refine w_aload_n gz_188_137 rfl ?_
                refine w_getX (v := 171) gz_188_138 is_151 rd_10 rfl (by decide) rfl ?_
                refine w_iload_n gz_188_141 rfl ?_
                refine w_dup2 gz_188_142 rfl rfl ?_
                refine w_iald gz_188_143 is_171 rd_70 (by omega) (by omega) (fun v110 ev110 pv110 qv110 => ?_)
                have zv110 := ev110.trans ((my_up_role fh108 is_171 is_172 rfl).trans ev103.symm)
                have c171 : ∀ j : Int, h108 171 j = h18_0 171 j := fun j => ((my_up_role fh108 is_171 is_172 rfl).trans ((my_fr.at frh80 is_171 rfl).trans (rfl : h18_0 171 j = h18_0 171 j)))
                have f8 : v110 ≤ 7 := by have q := c171 x1; omega
                refine w_iconst gz_188_144 (by decide) ?_
                refine w_iadd gz_188_145 ⟨by omega, by omega⟩ ?_
                have hi111 : 0 ≤ (v110 + 1) := by omega
                have hi112 : (v110 + 1) ≤ 8 := by omega
                refine w_iast gz_188_146 is_171 rd_70 (by omega) (by omega) (by omega) (by omega) (fun h113 fh113 => ?_)
                have gh113 : my_fr [(10, 7), (10, 8), (67, -1), (70, -1), (71, -1)] h h113 := my_fr.up gh108 is_171 fh113 rfl
                have Mq_h113 : Mq h113 wv := Mq_u (a := 171) hwv (by decide) (by omega) fh113 Mq_h108
                have P6_h113 : h113 167 6 = h 167 6 := P6_ag (my_ag.up fh113 is_171 rfl) P6_h108
                have Tok_h113 : Tok h113 := Tok_ag (my_ag.up fh113 is_171 rfl) Tok_h108
                have k46 := my_up_self fh113
                refine w_aload_n gz_188_147 rfl ?_
                refine w_getX (v := 153) gz_188_148 is_151 rd_10 rfl (by decide) rfl ?_
                refine w_aload_n gz_188_151 rfl ?_
                refine v_getI (j := 7) gz_188_152 rfl is_151 rd_10 rfl (fun v115 ev115 pv115 qv115 => ?_)
                have zv115 := ev115.trans ((my_up_role fh113 is_151 is_171 rfl).trans ((my_up_role fh108 is_151 is_172 rfl).trans (rfl : h80 151 7 = h80 151 7)))
                refine w_iald gz_188_155 is_153 rd_52 (by omega) (by omega) (fun v116 ev116 pv116 qv116 => ?_)
                refine w_iconst gz_188_156 (by decide) ?_
                refine w_icne (t := 164) gz_188_157 rfl (fun u117 => ?_) (fun u117 => ?_)
                ·
                  refine w_iconst gz_188_164 (by decide) ?_
                  refine w_istore_n (ls' := [(2, 151), (0, x1), (0, v100), (0, 0), (0, v81)]) gz_188_165 gm_188 rfl rfl rfl ?_
                  refine w_goto (t := 18) gz_188_166 rfl ?_
                  have ce118 : h113 151 7 = v115 := ev115.symm
                  have a168 : ∀ j : Int, h113 168 j = h18_0 168 j := fun j => ((my_up_role fh113 is_168 is_171 rfl).trans ((my_up_role fh108 is_168 is_172 rfl).trans ((my_fr.at frh80 is_168 rfl).trans (rfl : h18_0 168 j = h18_0 168 j))))
                  have a171 : ∀ j : Int, h113 171 j = h18_0 171 j := fun j => ((my_up_ne fh113 (by omega)).trans ((my_up_role fh108 is_171 is_172 rfl).trans ((my_fr.at frh80 is_171 rfl).trans (rfl : h18_0 171 j = h18_0 171 j))))
                  have a172 : ∀ j : Int, h113 172 j = h18_0 172 j := fun j => ((my_up_role fh113 is_172 is_171 rfl).trans ((my_up_ne fh108 (by omega)).trans ((my_fr.at frh80 is_172 rfl).trans (rfl : h18_0 172 j = h18_0 172 j))))
                  refine w_weak (ls' := [(2, 151), (0, x1), (0, v100), (0, 0), (9, 0)]) (wk_e (wk_e (wk_e (wk_e (wk_9 wk_n))))) ?_
                  exact ih_18_0 (v100) (0) (v96) h113 (gh113) (by omega) (by omega) (by omega) (by omega) (((my_up_role fh113 is_151 is_171 rfl).trans ((my_up_role fh108 is_151 is_172 rfl).trans ((my_fr.at frh80 is_151 rfl).trans ev72.symm))).trans (by omega)) (((my_up_role fh113 is_151 is_171 rfl).trans ((my_up_role fh108 is_151 is_172 rfl).trans ev96.symm)).trans (by omega)) Tok_h113 Mq_h113 P6_h113 (by rw [a168]; first | exact k168 | exact k8_18_0) (by omega) (by first | (rw [a171]; exact pq_18_0) | (rw [a171, k13]; exact pop8_0) | (rw [a171, k46]; omega)) (by omega) (by first | (intro i i0 i7 il; exfalso; rw [a171, k13] at il; omega) | (intro i i0 i7 il; rw [a172]; exact fw_18_0 i i0 i7 (by have z := a171 x1; omega)) | (intro i i0 i7 il; rw [a172]; have z := a171 x1; have z2 := b171 x1; rcases (by omega : i = vm ∨ i < vm) with q | q <;> first | (rw [q, k36]; omega) | (rw [my_up_ne f36 (by omega), c172]; exact fw_18_0 i i0 i7 (by omega)))) (by omega)
                ·
                  refine w_iconst gz_188_160 (by decide) ?_
                  refine w_goto (t := 165) gz_188_161 rfl ?_
                  refine w_istore_n (ls' := [(2, 151), (0, x1), (0, v100), (0, 1), (0, v81)]) gz_188_165 gm_188 rfl rfl rfl ?_
                  refine w_goto (t := 18) gz_188_166 rfl ?_
                  have ce119 : h113 151 7 = v115 := ev115.symm
                  have a168 : ∀ j : Int, h113 168 j = h18_0 168 j := fun j => ((my_up_role fh113 is_168 is_171 rfl).trans ((my_up_role fh108 is_168 is_172 rfl).trans ((my_fr.at frh80 is_168 rfl).trans (rfl : h18_0 168 j = h18_0 168 j))))
                  have a171 : ∀ j : Int, h113 171 j = h18_0 171 j := fun j => ((my_up_ne fh113 (by omega)).trans ((my_up_role fh108 is_171 is_172 rfl).trans ((my_fr.at frh80 is_171 rfl).trans (rfl : h18_0 171 j = h18_0 171 j))))
                  have a172 : ∀ j : Int, h113 172 j = h18_0 172 j := fun j => ((my_up_role fh113 is_172 is_171 rfl).trans ((my_up_ne fh108 (by omega)).trans ((my_fr.at frh80 is_172 rfl).trans (rfl : h18_0 172 j = h18_0 172 j))))
                  refine w_weak (ls' := [(2, 151), (0, x1), (0, v100), (0, 1), (9, 0)]) (wk_e (wk_e (wk_e (wk_e (wk_9 wk_n))))) ?_
                  exact ih_18_0 (v100) (1) (v96) h113 (gh113) (by omega) (by omega) (by omega) (by omega) (((my_up_role fh113 is_151 is_171 rfl).trans ((my_up_role fh108 is_151 is_172 rfl).trans ((my_fr.at frh80 is_151 rfl).trans ev72.symm))).trans (by omega)) (((my_up_role fh113 is_151 is_171 rfl).trans ((my_up_role fh108 is_151 is_172 rfl).trans ev96.symm)).trans (by omega)) Tok_h113 Mq_h113 P6_h113 (by rw [a168]; first | exact k168 | exact k8_18_0) (by omega) (by first | (rw [a171]; exact pq_18_0) | (rw [a171, k13]; exact pop8_0) | (rw [a171, k46]; omega)) (by omega) (by first | (intro i i0 i7 il; exfalso; rw [a171, k13] at il; omega) | (intro i i0 i7 il; rw [a172]; exact fw_18_0 i i0 i7 (by have z := a171 x1; omega)) | (intro i i0 i7 il; rw [a172]; have z := a171 x1; have z2 := b171 x1; rcases (by omega : i = vm ∨ i < vm) with q | q <;> first | (rw [q, k36]; omega) | (rw [my_up_ne f36 (by omega), c172]; exact fw_18_0 i i0 i7 (by omega)))) (by omega)
            ·
              refine w_iload_n gz_188_60 rfl ?_
              refine w_aload_n gz_188_61 rfl ?_
              refine w_getX (v := 155) gz_188_62 is_151 rd_10 rfl (by decide) rfl ?_
              refine w_aload_n gz_188_65 rfl ?_
              refine v_getI (j := 7) gz_188_66 rfl is_151 rd_10 rfl (fun v121 ev121 pv121 qv121 => ?_)
              have zv121 := ev121.trans ev67.symm
              refine w_lald gz_188_69 is_155 rd_54 (by omega) (by omega) (fun v122 ev122 pv122 => ?_)
              have tb : 0 ≤ v122 ∧ v122 ≤ 999 := by
                have q := Tok_at n_Tok_18_0
                subst_vars
                omega
              refine w_l2iE gz_188_70 (fun v123 pv123 qv123 xv123 => ?_)
              have z155 : v123 = h18_0 155 (h18_0 151 7) := by subst_vars; omega
              refine w_ishrX gz_188_71 (fun v124 ev124 pv124 qv124 => ?_)
              refine w_iconst gz_188_72 (by decide) ?_
              refine w_iandXM gz_188_73 (by decide) (fun v125 ev125 pv125 qv125 => ?_)
              refine w_iconst gz_188_74 (by decide) ?_
              refine w_icne (t := 83) gz_188_75 rfl (fun u126 => ?_) (fun u126 => ?_)
              ·
                refine w_aload_n gz_188_83 rfl ?_
                refine w_aload_n gz_188_84 rfl ?_
                refine v_getI (j := 27) gz_188_85 rfl is_151 rd_10 rfl (fun v127 ev127 pv127 qv127 => ?_)
                have zv127 := ev127.trans ev69.symm
                refine w_iconst gz_188_88 (by decide) ?_
                refine w_isub gz_188_89 ⟨by omega, by omega⟩ ?_
                have ce128 : h18_0 151 7 = v121 := ev121.symm
                have ce129 : h18_0 151 27 = v127 := ev127.symm
                refine w_inv (k := 0) (as := [(0, (v127 - 1))]) (r := []) (x := 151) (ls0 := [(2, 151), (0, (v127 - 1))]) gz_188_90 gm_187 rfl is_151 rd_10 rfl rfl rfl rfl rfl (c_Model_takeNumber2_f0 (d := d) (x1 := (v127 - 1)) (by omega) (by omega) (ev3.symm.trans (by omega)) n_Tok_18_0 (fun h130 frh130 w131 w132 xp133 Tok_h130t134 => ?_) (fun h135 v136 frh135 w137 w138 w139 w140 w141 xp142 xp143 xp144 xp145 xp146 Tok_h135t147 => ?_))
                ·
                  have gh130 : my_fr [(10, 7), (10, 8), (67, -1), (70, -1), (71, -1)] h h130 := my_fr.tr gh_18_0 (frh130.mo rfl)
                  have Mq_h130 : Mq h130 wv := Mq_ag (my_ag.fr frh130 rfl) n_Mq_18_0
                  have P6_h130 : h130 167 6 = h 167 6 := P6_ag (my_ag.fr frh130 rfl) n_P6_18_0
                  show wp l rho (d + 2) 188 93 [(2, 151), (0, x1), (0, p18_0), (0, p18_1), (9, 0)] [(0, 0)] h130 Q
                  refine w_istore (ls' := [(2, 151), (0, x1), (0, p18_0), (0, p18_1), (0, 0)]) gz_188_93 gm_188 rfl rfl rfl ?_
                  refine w_aload_n gz_188_95 rfl ?_
                  refine v_getI (j := 8) gz_188_96 rfl is_151 rd_10 rfl (fun v148 ev148 pv148 qv148 => ?_)
                  have zv148 := ev148.trans (rfl : h130 151 8 = h130 151 8)
                  refine w_ifne (t := 106) gz_188_99 rfl (fun u149 => ?_) (fun u149 => by exfalso; omega)
                  refine w_iconst gz_188_106 (by decide) ?_
                  refine w_istore_n (ls' := [(2, 151), (0, x1), (0, p18_0), (0, 0), (0, 0)]) gz_188_107 gm_188 rfl rfl rfl ?_
                  refine w_iload_n gz_188_108 rfl ?_
                  refine w_ifeq (t := 166) gz_188_109 rfl (fun u150 => ?_) (fun u150 => by exfalso; omega)
                  refine w_goto (t := 18) gz_188_166 rfl ?_
                  have a168 : ∀ j : Int, h130 168 j = h18_0 168 j := fun j => ((my_fr.at frh130 is_168 rfl).trans (rfl : h18_0 168 j = h18_0 168 j))
                  have a171 : ∀ j : Int, h130 171 j = h18_0 171 j := fun j => ((my_fr.at frh130 is_171 rfl).trans (rfl : h18_0 171 j = h18_0 171 j))
                  have a172 : ∀ j : Int, h130 172 j = h18_0 172 j := fun j => ((my_fr.at frh130 is_172 rfl).trans (rfl : h18_0 172 j = h18_0 172 j))
                  refine w_weak (ls' := [(2, 151), (0, x1), (0, p18_0), (0, 0), (9, 0)]) (wk_e (wk_e (wk_e (wk_e (wk_9 wk_n))))) ?_
                  exact ih_18_0 (p18_0) (0) (v148) h130 (gh130) (by omega) (by omega) (by omega) (by omega) (((my_fr.at frh130 is_151 rfl).trans ev127.symm).trans (by omega)) (ev148.symm.trans (by omega)) Tok_h130t134 Mq_h130 P6_h130 (by rw [a168]; first | exact k168 | exact k8_18_0) (by omega) (by first | (rw [a171]; exact pq_18_0) | (rw [a171, k13]; exact pop8_0) | (rw [a171, k46]; omega)) (by omega) (by first | (intro i i0 i7 il; exfalso; rw [a171, k13] at il; omega) | (intro i i0 i7 il; rw [a172]; exact fw_18_0 i i0 i7 (by have z := a171 x1; omega)) | (intro i i0 i7 il; rw [a172]; have z := a171 x1; have z2 := b171 x1; rcases (by omega : i = vm ∨ i < vm) with q | q <;> first | (rw [q, k36]; omega) | (rw [my_up_ne f36 (by omega), c172]; exact fw_18_0 i i0 i7 (by omega)))) (by omega)
                ·
                  have gh135 : my_fr [(10, 7), (10, 8), (67, -1), (70, -1), (71, -1)] h h135 := my_fr.tr gh_18_0 (frh135.mo rfl)
                  have Mq_h135 : Mq h135 wv := Mq_ag (my_ag.fr frh135 rfl) n_Mq_18_0
                  have P6_h135 : h135 167 6 = h 167 6 := P6_ag (my_ag.fr frh135 rfl) n_P6_18_0
                  show wp l rho (d + 2) 188 93 [(2, 151), (0, x1), (0, p18_0), (0, p18_1), (9, 0)] [(0, v136)] h135 Q
                  refine w_istore (ls' := [(2, 151), (0, x1), (0, p18_0), (0, p18_1), (0, v136)]) gz_188_93 gm_188 rfl rfl rfl ?_
                  refine w_aload_n gz_188_95 rfl ?_
                  refine v_getI (j := 8) gz_188_96 rfl is_151 rd_10 rfl (fun v151 ev151 pv151 qv151 => ?_)
                  have zv151 := ev151.trans w141
                  refine w_ifne (t := 106) gz_188_99 rfl (fun u152 => by exfalso; omega) (fun u152 => ?_)
                  refine w_iconst gz_188_102 (by decide) ?_
                  refine w_goto (t := 107) gz_188_103 rfl ?_
                  refine w_istore_n (ls' := [(2, 151), (0, x1), (0, p18_0), (0, 1), (0, v136)]) gz_188_107 gm_188 rfl rfl rfl ?_
                  refine w_iload_n gz_188_108 rfl ?_
                  refine w_ifeq (t := 166) gz_188_109 rfl (fun u153 => by exfalso; omega) (fun u153 => ?_)
                  refine w_iload_n gz_188_112 rfl ?_
                  refine w_iconst gz_188_113 (by decide) ?_
                  refine w_iload gz_188_114 rfl ?_
                  refine w_ishlX gz_188_116 (fun v154 ev154 pv154 qv154 => ?_)
                  refine w_iorX gz_188_117 (fun v155 ev155 pv155 qv155 => ?_)
                  refine w_istore_n (ls' := [(2, 151), (0, x1), (0, v155), (0, 1), (0, v136)]) gz_188_118 gm_188 rfl rfl rfl ?_
                  refine w_aload_n gz_188_119 rfl ?_
                  refine w_getX (v := 172) gz_188_120 is_151 rd_10 rfl (by decide) rfl ?_
                  refine w_bipush gz_188_123 (by decide) ?_
                  refine w_iload_n gz_188_125 rfl ?_
                  refine w_imul gz_188_126 ⟨by omega, by omega⟩ ?_
                  refine w_aload_n gz_188_127 rfl ?_
                  refine w_getX (v := 171) gz_188_128 is_151 rd_10 rfl (by decide) rfl ?_
                  refine w_iload_n gz_188_131 rfl ?_
                  refine w_iald gz_188_132 is_171 rd_70 (by omega) (by omega) (fun v158 ev158 pv158 qv158 => ?_)
                  have b171 : ∀ j : Int, h135 171 j = h18_0 171 j := fun j => ((my_fr.at frh135 is_171 rfl).trans (rfl : h18_0 171 j = h18_0 171 j))
                  have f7 : v158 ≤ 7 := by have q := b171 x1; omega
                  obtain ⟨vm, em⟩ : ∃ vm : Int, vm = v158 := ⟨_, rfl⟩
                  have c172 : ∀ j : Int, h135 172 j = h18_0 172 j := fun j => ((my_fr.at frh135 is_172 rfl).trans (rfl : h18_0 172 j = h18_0 172 j))
                  refine w_iadd gz_188_133 ⟨by omega, by omega⟩ ?_
                  refine w_iload gz_188_134 rfl ?_
                  have hi159 : 0 ≤ v136 := by omega
                  have hi160 : v136 ≤ 7 := by omega
                  have hi161 : 0 ≤ ((8 * x1) + v158) := by omega
                  have hi162 : ((8 * x1) + v158) ≤ 335 := by omega
                  refine w_iast gz_188_136 is_172 rd_71 (by omega) (by omega) (by omega) (by omega) (fun h163 fh163 => ?_)
                  have gh163 : my_fr [(10, 7), (10, 8), (67, -1), (70, -1), (71, -1)] h h163 := my_fr.up gh135 is_172 fh163 rfl
                  have Mq_h163 : Mq h163 wv := Mq_v (a := 172) hwv (by decide) (by omega) fh163 Mq_h135
                  have P6_h163 : h163 167 6 = h 167 6 := P6_ag (my_ag.up fh163 is_172 rfl) P6_h135
                  have Tok_h163 : Tok h163 := Tok_ag (my_ag.up fh163 is_172 rfl) Tok_h135t147
                  have f36 := fh163
                  have k36 : h163 172 (8 * x1 + vm) = v136 := by rw [show 8 * x1 + vm = _ from by rw [em]]; exact my_up_self fh163
                  refine w_aload_n gz_188_137 rfl ?_
                  refine w_getX (v := 171) gz_188_138 is_151 rd_10 rfl (by decide) rfl ?_
                  refine w_iload_n gz_188_141 rfl ?_
                  refine w_dup2 gz_188_142 rfl rfl ?_
                  refine w_iald gz_188_143 is_171 rd_70 (by omega) (by omega) (fun v165 ev165 pv165 qv165 => ?_)
                  have zv165 := ev165.trans ((my_up_role fh163 is_171 is_172 rfl).trans ev158.symm)
                  have c171 : ∀ j : Int, h163 171 j = h18_0 171 j := fun j => ((my_up_role fh163 is_171 is_172 rfl).trans ((my_fr.at frh135 is_171 rfl).trans (rfl : h18_0 171 j = h18_0 171 j)))
                  have f8 : v165 ≤ 7 := by have q := c171 x1; omega
                  refine w_iconst gz_188_144 (by decide) ?_
                  refine w_iadd gz_188_145 ⟨by omega, by omega⟩ ?_
                  have hi166 : 0 ≤ (v165 + 1) := by omega
                  have hi167 : (v165 + 1) ≤ 8 := by omega
                  refine w_iast gz_188_146 is_171 rd_70 (by omega) (by omega) (by omega) (by omega) (fun h168 fh168 => ?_)
                  have gh168 : my_fr [(10, 7), (10, 8), (67, -1), (70, -1), (71, -1)] h h168 := my_fr.up gh163 is_171 fh168 rfl
                  have Mq_h168 : Mq h168 wv := Mq_u (a := 171) hwv (by decide) (by omega) fh168 Mq_h163
                  have P6_h168 : h168 167 6 = h 167 6 := P6_ag (my_ag.up fh168 is_171 rfl) P6_h163
                  have Tok_h168 : Tok h168 := Tok_ag (my_ag.up fh168 is_171 rfl) Tok_h163
                  have k46 := my_up_self fh168
                  refine w_aload_n gz_188_147 rfl ?_
                  refine w_getX (v := 153) gz_188_148 is_151 rd_10 rfl (by decide) rfl ?_
                  refine w_aload_n gz_188_151 rfl ?_
                  refine v_getI (j := 7) gz_188_152 rfl is_151 rd_10 rfl (fun v170 ev170 pv170 qv170 => ?_)
                  have zv170 := ev170.trans ((my_up_role fh168 is_151 is_171 rfl).trans ((my_up_role fh163 is_151 is_172 rfl).trans (rfl : h135 151 7 = h135 151 7)))
                  refine w_iald gz_188_155 is_153 rd_52 (by omega) (by omega) (fun v171 ev171 pv171 qv171 => ?_)
                  refine w_iconst gz_188_156 (by decide) ?_
                  refine w_icne (t := 164) gz_188_157 rfl (fun u172 => ?_) (fun u172 => ?_)
                  ·
                    refine w_iconst gz_188_164 (by decide) ?_
                    refine w_istore_n (ls' := [(2, 151), (0, x1), (0, v155), (0, 0), (0, v136)]) gz_188_165 gm_188 rfl rfl rfl ?_
                    refine w_goto (t := 18) gz_188_166 rfl ?_
                    have ce173 : h168 151 7 = v170 := ev170.symm
                    have a168 : ∀ j : Int, h168 168 j = h18_0 168 j := fun j => ((my_up_role fh168 is_168 is_171 rfl).trans ((my_up_role fh163 is_168 is_172 rfl).trans ((my_fr.at frh135 is_168 rfl).trans (rfl : h18_0 168 j = h18_0 168 j))))
                    have a171 : ∀ j : Int, h168 171 j = h18_0 171 j := fun j => ((my_up_ne fh168 (by omega)).trans ((my_up_role fh163 is_171 is_172 rfl).trans ((my_fr.at frh135 is_171 rfl).trans (rfl : h18_0 171 j = h18_0 171 j))))
                    have a172 : ∀ j : Int, h168 172 j = h18_0 172 j := fun j => ((my_up_role fh168 is_172 is_171 rfl).trans ((my_up_ne fh163 (by omega)).trans ((my_fr.at frh135 is_172 rfl).trans (rfl : h18_0 172 j = h18_0 172 j))))
                    refine w_weak (ls' := [(2, 151), (0, x1), (0, v155), (0, 0), (9, 0)]) (wk_e (wk_e (wk_e (wk_e (wk_9 wk_n))))) ?_
                    exact ih_18_0 (v155) (0) (v151) h168 (gh168) (by omega) (by omega) (by omega) (by omega) (((my_up_role fh168 is_151 is_171 rfl).trans ((my_up_role fh163 is_151 is_172 rfl).trans ((my_fr.at frh135 is_151 rfl).trans ev127.symm))).trans (by omega)) (((my_up_role fh168 is_151 is_171 rfl).trans ((my_up_role fh163 is_151 is_172 rfl).trans ev151.symm)).trans (by omega)) Tok_h168 Mq_h168 P6_h168 (by rw [a168]; first | exact k168 | exact k8_18_0) (by omega) (by first | (rw [a171]; exact pq_18_0) | (rw [a171, k13]; exact pop8_0) | (rw [a171, k46]; omega)) (by omega) (by first | (intro i i0 i7 il; exfalso; rw [a171, k13] at il; omega) | (intro i i0 i7 il; rw [a172]; exact fw_18_0 i i0 i7 (by have z := a171 x1; omega)) | (intro i i0 i7 il; rw [a172]; have z := a171 x1; have z2 := b171 x1; rcases (by omega : i = vm ∨ i < vm) with q | q <;> first | (rw [q, k36]; omega) | (rw [my_up_ne f36 (by omega), c172]; exact fw_18_0 i i0 i7 (by omega)))) (by omega)
                  ·
                    refine w_iconst gz_188_160 (by decide) ?_
                    refine w_goto (t := 165) gz_188_161 rfl ?_
                    refine w_istore_n (ls' := [(2, 151), (0, x1), (0, v155), (0, 1), (0, v136)]) gz_188_165 gm_188 rfl rfl rfl ?_
                    refine w_goto (t := 18) gz_188_166 rfl ?_
                    have ce174 : h168 151 7 = v170 := ev170.symm
                    have a168 : ∀ j : Int, h168 168 j = h18_0 168 j := fun j => ((my_up_role fh168 is_168 is_171 rfl).trans ((my_up_role fh163 is_168 is_172 rfl).trans ((my_fr.at frh135 is_168 rfl).trans (rfl : h18_0 168 j = h18_0 168 j))))
                    have a171 : ∀ j : Int, h168 171 j = h18_0 171 j := fun j => ((my_up_ne fh168 (by omega)).trans ((my_up_role fh163 is_171 is_172 rfl).trans ((my_fr.at frh135 is_171 rfl).trans (rfl : h18_0 171 j = h18_0 171 j))))
                    have a172 : ∀ j : Int, h168 172 j = h18_0 172 j := fun j => ((my_up_role fh168 is_172 is_171 rfl).trans ((my_up_ne fh163 (by omega)).trans ((my_fr.at frh135 is_172 rfl).trans (rfl : h18_0 172 j = h18_0 172 j))))
                    refine w_weak (ls' := [(2, 151), (0, x1), (0, v155), (0, 1), (9, 0)]) (wk_e (wk_e (wk_e (wk_e (wk_9 wk_n))))) ?_
                    exact ih_18_0 (v155) (1) (v151) h168 (gh168) (by omega) (by omega) (by omega) (by omega) (((my_up_role fh168 is_151 is_171 rfl).trans ((my_up_role fh163 is_151 is_172 rfl).trans ((my_fr.at frh135 is_151 rfl).trans ev127.symm))).trans (by omega)) (((my_up_role fh168 is_151 is_171 rfl).trans ((my_up_role fh163 is_151 is_172 rfl).trans ev151.symm)).trans (by omega)) Tok_h168 Mq_h168 P6_h168 (by rw [a168]; first | exact k168 | exact k8_18_0) (by omega) (by first | (rw [a171]; exact pq_18_0) | (rw [a171, k13]; exact pop8_0) | (rw [a171, k46]; omega)) (by omega) (by first | (intro i i0 i7 il; exfalso; rw [a171, k13] at il; omega) | (intro i i0 i7 il; rw [a172]; exact fw_18_0 i i0 i7 (by have z := a171 x1; omega)) | (intro i i0 i7 il; rw [a172]; have z := a171 x1; have z2 := b171 x1; rcases (by omega : i = vm ∨ i < vm) with q | q <;> first | (rw [q, k36]; omega) | (rw [my_up_ne f36 (by omega), c172]; exact fw_18_0 i i0 i7 (by omega)))) (by omega)
              ·
                refine w_aload_n gz_188_78 rfl ?_
                refine w_iconst gz_188_79 (by decide) ?_
                have ce175 : h18_0 151 7 = v121 := ev121.symm
                have ce176 : h18_0 151 27 = v69 := ev69.symm
                refine w_inv (k := 0) (as := [(0, 3)]) (r := []) (x := 151) (ls0 := [(2, 151), (0, 3)]) gz_188_80 gm_178 rfl is_151 rd_10 rfl rfl rfl rfl rfl ?_
                refine w_aload_n gz_178_0 rfl ?_
                refine v_getI (j := 8) gz_178_1 rfl is_151 rd_10 rfl (fun v177 ev177 pv177 qv177 => ?_)
                have zv177 := ev177.trans ev3.symm
                refine w_ifne (t := 25) gz_178_4 rfl (fun u178 => by exfalso; omega) (fun u178 => ?_)
                refine w_aload_n gz_178_7 rfl ?_
                refine w_iload_n gz_178_8 rfl ?_
                refine w_bipush gz_178_9 (by decide) ?_
                refine w_aload_n gz_178_11 rfl ?_
                refine w_getX (v := 154) gz_178_12 is_151 rd_10 rfl (by decide) rfl ?_
                refine w_aload_n gz_178_15 rfl ?_
                refine v_getI (j := 7) gz_178_16 rfl is_151 rd_10 rfl (fun v180 ev180 pv180 qv180 => ?_)
                have zv180 := ev180.trans ev121.symm
                refine w_iald gz_178_19 is_154 rd_53 (by omega) (by omega) (fun v181 ev181 pv181 qv181 => ?_)
                refine w_imul gz_178_20 ⟨by omega, by omega⟩ ?_
                refine w_iadd gz_178_21 ⟨by omega, by omega⟩ ?_
                refine v_putI (j := 8) gz_178_22 rfl is_151 rd_10 rfl (by omega) (by omega) rfl (fun h182 fh182 => ?_)
                have gh182 : my_fr [(10, 7), (10, 8), (67, -1), (70, -1), (71, -1)] h h182 := my_fr.up gh_18_0 is_151 fh182 rfl
                have Tok_h182 : Tok h182 := Tok_ag (my_ag.up fh182 is_151 rfl) n_Tok_18_0
                have Mq_h182 : Mq h182 wv := Mq_ag (my_ag.up fh182 is_151 rfl) n_Mq_18_0
                have P6_h182 : h182 167 6 = h 167 6 := P6_ag (my_ag.up fh182 is_151 rfl) n_P6_18_0
                refine w_vret gz_178_25 gm_178 ?_
                show wp l rho (d + 2) 188 83 [(2, 151), (0, x1), (0, p18_0), (0, p18_1), (9, 0)] [] h182 Q
                refine w_aload_n gz_188_83 rfl ?_
                refine w_aload_n gz_188_84 rfl ?_
                refine v_getI (j := 27) gz_188_85 rfl is_151 rd_10 rfl (fun v183 ev183 pv183 qv183 => ?_)
                have zv183 := ev183.trans ((my_up_fld fh182 (by decide)).trans ev69.symm)
                refine w_iconst gz_188_88 (by decide) ?_
                refine w_isub gz_188_89 ⟨by omega, by omega⟩ ?_
                have ce184 : h182 151 7 = v180 := ((my_up_fld fh182 (by decide)).trans ev180.symm)
                have ce185 : h182 151 27 = v183 := ev183.symm
                refine w_inv (k := 0) (as := [(0, (v183 - 1))]) (r := []) (x := 151) (ls0 := [(2, 151), (0, (v183 - 1))]) gz_188_90 gm_187 rfl is_151 rd_10 rfl rfl rfl rfl rfl (c_Model_takeNumber2_f1 (d := d) (x1 := (v183 - 1)) (by omega) (by omega) ((3 + (16 * v181))) ((my_up_self fh182)) (by omega) (by omega) Tok_h182 (fun w186 w187 xp188 Tok_h182t189 => ?_))
                show wp l rho (d + 2) 188 93 [(2, 151), (0, x1), (0, p18_0), (0, p18_1), (9, 0)] [(0, 0)] h182 Q
                refine w_istore (ls' := [(2, 151), (0, x1), (0, p18_0), (0, p18_1), (0, 0)]) gz_188_93 gm_188 rfl rfl rfl ?_
                refine w_aload_n gz_188_95 rfl ?_
                refine v_getI (j := 8) gz_188_96 rfl is_151 rd_10 rfl (fun v190 ev190 pv190 qv190 => ?_)
                have zv190 := ev190.trans (my_up_self fh182)
                refine w_ifne (t := 106) gz_188_99 rfl (fun u191 => ?_) (fun u191 => by exfalso; omega)
                refine w_iconst gz_188_106 (by decide) ?_
                refine w_istore_n (ls' := [(2, 151), (0, x1), (0, p18_0), (0, 0), (0, 0)]) gz_188_107 gm_188 rfl rfl rfl ?_
                refine w_iload_n gz_188_108 rfl ?_
                refine w_ifeq (t := 166) gz_188_109 rfl (fun u192 => ?_) (fun u192 => by exfalso; omega)
                refine w_goto (t := 18) gz_188_166 rfl ?_
                have ce193 : h182 151 7 = v180 := ((my_up_fld fh182 (by decide)).trans ev180.symm)
                have a168 : ∀ j : Int, h182 168 j = h18_0 168 j := fun j => ((my_up_role fh182 is_168 is_151 rfl).trans (rfl : h18_0 168 j = h18_0 168 j))
                have a171 : ∀ j : Int, h182 171 j = h18_0 171 j := fun j => ((my_up_role fh182 is_171 is_151 rfl).trans (rfl : h18_0 171 j = h18_0 171 j))
                have a172 : ∀ j : Int, h182 172 j = h18_0 172 j := fun j => ((my_up_role fh182 is_172 is_151 rfl).trans (rfl : h18_0 172 j = h18_0 172 j))
                refine w_weak (ls' := [(2, 151), (0, x1), (0, p18_0), (0, 0), (9, 0)]) (wk_e (wk_e (wk_e (wk_e (wk_9 wk_n))))) ?_
                exact ih_18_0 (p18_0) (0) (v190) h182 (gh182) (by omega) (by omega) (by omega) (by omega) (ev183.symm.trans (by omega)) (ev190.symm.trans (by omega)) Tok_h182t189 Mq_h182 P6_h182 (by rw [a168]; first | exact k168 | exact k8_18_0) (by omega) (by first | (rw [a171]; exact pq_18_0) | (rw [a171, k13]; exact pop8_0) | (rw [a171, k46]; omega)) (by omega) (by first | (intro i i0 i7 il; exfalso; rw [a171, k13] at il; omega) | (intro i i0 i7 il; rw [a172]; exact fw_18_0 i i0 i7 (by have z := a171 x1; omega)) | (intro i i0 i7 il; rw [a172]; have z := a171 x1; have z2 := b171 x1; rcases (by omega : i = vm ∨ i < vm) with q | q <;> first | (rw [q, k36]; omega) | (rw [my_up_ne f36 (by omega), c172]; exact fw_18_0 i i0 i7 (by omega)))) (by omega)
  refine w_aload_n gz_188_0 rfl ?_
  refine w_getX (v := 168) gz_188_1 is_151 rd_10 rfl (by decide) rfl ?_
  refine w_iload_n gz_188_4 rfl ?_
  refine w_iconst gz_188_5 (by decide) ?_
  refine w_iast gz_188_6 is_168 rd_67 (by omega) (by omega) (by omega) (by omega) (fun h195 fh195 => ?_)
  have gh195 : my_fr [(10, 7), (10, 8), (67, -1), (70, -1), (71, -1)] h h195 := my_fr.up my_fr.rf is_168 fh195 rfl
  have Tok_h195 : Tok h195 := Tok_ag (my_ag.up fh195 is_168 rfl) n_Tok
  have Mq_h195 : Mq h195 wv := Mq_u (a := 168) hwv (by decide) (by omega) fh195 n_Mq
  have P6_h195 : h195 167 6 = h 167 6 := P6_ag (my_ag.up fh195 is_168 rfl) (rfl)
  have k168 : h195 168 x1 = 3 := my_up_self fh195
  refine w_aload_n gz_188_7 rfl ?_
  refine w_getX (v := 171) gz_188_8 is_151 rd_10 rfl (by decide) rfl ?_
  refine w_iload_n gz_188_11 rfl ?_
  refine w_iconst gz_188_12 (by decide) ?_
  refine w_iast gz_188_13 is_171 rd_70 (by omega) (by omega) (by omega) (by omega) (fun h197 fh197 => ?_)
  have gh197 : my_fr [(10, 7), (10, 8), (67, -1), (70, -1), (71, -1)] h h197 := my_fr.up gh195 is_171 fh197 rfl
  have Tok_h197 : Tok h197 := Tok_ag (my_ag.up fh197 is_171 rfl) Tok_h195
  have Mq_h197 : Mq h197 wv := Mq_u (a := 171) hwv (by decide) (by omega) fh197 Mq_h195
  have P6_h197 : h197 167 6 = h 167 6 := P6_ag (my_ag.up fh197 is_171 rfl) P6_h195
  have k13 : h197 171 x1 = 0 := my_up_self fh197
  refine w_iconst gz_188_14 (by decide) ?_
  refine w_istore_n (ls' := [(2, 151), (0, x1), (0, 0), (9, 0), (9, 0)]) gz_188_15 gm_188 rfl rfl rfl ?_
  refine w_iconst gz_188_16 (by decide) ?_
  refine w_istore_n (ls' := [(2, 151), (0, x1), (0, 0), (0, 1), (9, 0)]) gz_188_17 gm_188 rfl rfl rfl ?_
  have ce198 : h197 151 7 = k151_7 := ((my_up_role fh197 is_151 is_171 rfl).trans ((my_up_role fh195 is_151 is_168 rfl).trans ek151_7.symm))
  have a168 : ∀ j : Int, h197 168 j = h 168 j := fun j => ((my_up_role fh197 is_168 is_171 rfl).trans ((my_up_ne fh195 (by omega)).trans (rfl : h 168 j = h 168 j)))
  have a171 : ∀ j : Int, h197 171 j = h 171 j := fun j => ((my_up_ne fh197 (by omega)).trans ((my_up_role fh195 is_171 is_168 rfl).trans (rfl : h 171 j = h 171 j)))
  have a172 : ∀ j : Int, h197 172 j = h 172 j := fun j => ((my_up_role fh197 is_172 is_171 rfl).trans ((my_up_role fh195 is_172 is_168 rfl).trans (rfl : h 172 j = h 172 j)))
  exact J18_0 (1003) (0) (1) (0) h197 (gh197) (by omega) (by omega) (by omega) (by omega) (((my_up_role fh197 is_151 is_171 rfl).trans ((my_up_role fh195 is_151 is_168 rfl).trans ek151_27.symm)).trans (by omega)) (((my_up_role fh197 is_151 is_171 rfl).trans ((my_up_role fh195 is_151 is_168 rfl).trans cf)).trans (by omega)) Tok_h197 Mq_h197 P6_h197 (by rw [a168]; first | exact k168 | exact k8_18_0) (by omega) (by first | (rw [a171]; exact pq_18_0) | (rw [a171, k13]; exact pop8_0) | (rw [a171, k46]; omega)) (by omega) (by first | (intro i i0 i7 il; exfalso; rw [a171, k13] at il; omega) | (intro i i0 i7 il; rw [a172]; exact fw_18_0 i i0 i7 (by have z := a171 x1; omega)) | (intro i i0 i7 il; rw [a172]; have z := a171 x1; have z2 := b171 x1; rcases (by omega : i = vm ∨ i < vm) with q | q <;> first | (rw [q, k36]; omega) | (rw [my_up_ne f36 (by omega), c172]; exact fw_18_0 i i0 i7 (by omega)))) (by omega)
theorem c_Model_readCut2_f0 {l : Launch} {rho : Nat → Int32} {d : Nat} {h : my_H} {Q : my_H → my_V → Prop} {x1 : Int} {wv : Int} (a1 : 36 ≤ x1) (b1 : x1 ≤ 41) (cf : h 151 8 = 0) (hwv : wv ≤ 5) (hwv0 : 0 ≤ wv) (n_Tok : Tok h) (n_Mq : Mq h wv) (hp : x1 = 36 + h 167 6) (k0 : ∀ (h' : my_H), my_fr [(10, 7), (10, 8), (67, -1), (68, -1), (69, -1)] h h' → 1 ≤ h' 151 8 → h' 151 8 ≤ 16005 → h 151 7 ≤ h' 151 7 → Tok h' → Mq h' wv → Q h' (9, 0)) (k1 : ∀ (h' : my_H), my_fr [(10, 7), (10, 8), (67, -1), (68, -1), (69, -1)] h h' → 1 ≤ h' 151 7 → h' 151 7 ≤ 1001 → h' 151 8 = 0 → PaneOk h' x1 → Pk3 h' x1 (h' 151 27) → h 151 7 ≤ h' 151 7 → Tok h' → Mq h' wv → Q h' (9, 0)) : wp l rho (d + 2) 186 0 [(2, 151), (0, x1), (9, 0), (9, 0)] [] h Q := by
  refine v_know (x := 151) (j := 7) (b := 7) rfl is_151 rd_10 rfl (fun k151_7 ek151_7 pk151_7 qk151_7 => ?_)
  refine v_know (x := 151) (j := 27) (b := 27) rfl is_151 rd_10 rfl (fun k151_27 ek151_27 pk151_27 qk151_27 => ?_)
  have J20_0 : ∀ (n : Nat) (p20_0 p20_1 p20_2 : Int) (h20_0 : my_H), my_fr [(10, 7), (10, 8), (67, -1), (68, -1), (69, -1)] h h20_0 → (-1) ≤ p20_0 → p20_0 ≤ 2 → 0 ≤ p20_1 → p20_1 ≤ 3 → 0 ≤ p20_2 → p20_2 ≤ 16004 → p20_0 ≤ (p20_1 - 1) → h20_0 151 27 = k151_27 → h20_0 151 8 = p20_2 → Tok h20_0 → Mq h20_0 wv → h20_0 167 6 = h 167 6 → (0 ≤ p20_0 → h20_0 153 (h20_0 151 7) = 1) → h 151 7 ≤ h20_0 151 7 → (h20_0 151 8 = 0 → h20_0 169 x1 < k151_27) → 4 - p20_1 ≤ (n : Int) → wp l rho (d + 2) 186 20 [(2, 151), (0, x1), (0, p20_0), (0, p20_1)] [] h20_0 Q := by
    intro n
    induction n with
    | zero => intro p20_0 p20_1 p20_2 h20_0 gh_20_0 q0_20_0 q1_20_0 q2_20_0 q3_20_0 q4_20_0 q5_20_0 q6_20_0 c151_27_20_0 c151_8_20_0 n_Tok_20_0 n_Mq_20_0 n_P6_20_0 kw_20_0 am_20_0 k9_20_0 hm_20_0; exfalso; omega
    | succ n ih_20_0 =>
      intro p20_0 p20_1 p20_2 h20_0 gh_20_0 q0_20_0 q1_20_0 q2_20_0 q3_20_0 q4_20_0 q5_20_0 q6_20_0 c151_27_20_0 c151_8_20_0 n_Tok_20_0 n_Mq_20_0 n_P6_20_0 kw_20_0 am_20_0 k9_20_0 hm_20_0
      refine w_iload_n gz_186_20 rfl ?_
      refine w_iconst gz_186_21 (by decide) ?_
      refine w_icge (t := 47) gz_186_22 rfl (fun u1 => ?_) (fun u1 => ?_)
      ·
        refine w_iload_n gz_186_47 rfl ?_
        refine w_ifge (t := 57) gz_186_48 rfl (fun u2 => ?_) (fun u2 => ?_)
        ·
          refine w_aload_n gz_186_57 rfl ?_
          refine w_dup gz_186_58 rfl ?_
          refine v_getI (j := 7) gz_186_59 rfl is_151 rd_10 rfl (fun v3 ev3 pv3 qv3 => ?_)
          refine w_iconst gz_186_62 (by decide) ?_
          refine w_iadd gz_186_63 ⟨by omega, by omega⟩ ?_
          have hi4 : 0 ≤ (v3 + 1) := by have q := Tok_at n_Tok_20_0; omega
          have hi5 : (v3 + 1) ≤ 1001 := by have q := Tok_at n_Tok_20_0; omega
          refine v_putI (j := 7) gz_186_64 rfl is_151 rd_10 rfl (by omega) (by omega) rfl (fun h6 fh6 => ?_)
          have gh6 : my_fr [(10, 7), (10, 8), (67, -1), (68, -1), (69, -1)] h h6 := my_fr.up gh_20_0 is_151 fh6 rfl
          have Mq_h6 : Mq h6 wv := Mq_ag (my_ag.up fh6 is_151 rfl) n_Mq_20_0
          have P6_h6 : h6 167 6 = h 167 6 := P6_ag (my_ag.up fh6 is_151 rfl) n_P6_20_0
          have Tok_h6t7 : Tok h6 := by first | exact Tok_inc n_Tok_20_0 (by subst_vars; omega) (by omega) fh6 | exact Tok_set n_Tok_20_0 (by omega) fh6
          have k7 := my_up_self fh6
          refine w_aload_n gz_186_67 rfl ?_
          refine w_getX (v := 168) gz_186_68 is_151 rd_10 rfl (by decide) rfl ?_
          refine w_iload_n gz_186_71 rfl ?_
          refine w_iload_n gz_186_72 rfl ?_
          refine w_iast gz_186_73 is_168 rd_67 (by omega) (by omega) (by omega) (by omega) (fun h9 fh9 => ?_)
          have gh9 : my_fr [(10, 7), (10, 8), (67, -1), (68, -1), (69, -1)] h h9 := my_fr.up gh6 is_168 fh9 rfl
          have Mq_h9 : Mq h9 wv := Mq_u (a := 168) hwv (by decide) (by omega) fh9 Mq_h6
          have P6_h9 : h9 167 6 = h 167 6 := P6_ag (my_ag.up fh9 is_168 rfl) P6_h6
          have Tok_h9 : Tok h9 := Tok_ag (my_ag.up fh9 is_168 rfl) Tok_h6t7
          have k168 : h9 168 x1 = p20_0 := my_up_self fh9
          have ce10 : h9 151 7 = (v3 + 1) := ((my_up_role fh9 is_151 is_168 rfl).trans (my_up_self fh6))
          refine w_aload_n gz_186_74 rfl ?_
          refine w_getX (v := 170) gz_186_75 is_151 rd_10 rfl (by decide) rfl ?_
          refine w_iload_n gz_186_78 rfl ?_
          refine w_aload_n gz_186_79 rfl ?_
          refine w_sipush gz_186_80 (by decide) ?_
          refine w_inv (k := 0) (as := [(0, 199)]) (r := [(0, x1), (2, 170)]) (x := 151) (ls0 := [(2, 151), (0, 199)]) gz_186_83 gm_187 rfl is_151 rd_10 rfl rfl rfl rfl rfl (c_Model_takeNumber2_fq (d := d)  Tok_h9 (fun h12 frh12 w13 w14 xp15 Tok_h12t16 => ?_) (fun h17 v18 frh17 w19 w20 w21 w22 w23 xp24 xp25 xp26 xp27 xp28 Tok_h17t29 => ?_))
          ·
            have gh12 : my_fr [(10, 7), (10, 8), (67, -1), (68, -1), (69, -1)] h h12 := my_fr.tr gh9 (frh12.mo rfl)
            have Mq_h12 : Mq h12 wv := Mq_ag (my_ag.fr frh12 rfl) Mq_h9
            have P6_h12 : h12 167 6 = h 167 6 := P6_ag (my_ag.fr frh12 rfl) P6_h9
            show wp l rho (d + 2) 186 86 [(2, 151), (0, x1), (0, p20_0), (0, p20_1)] [(0, 0), (0, x1), (2, 170)] h12 Q
            have hi30 : 0 ≤ 0 := by omega
            have hi31 : 0 ≤ 199 := by omega
            refine w_iast gz_186_86 is_170 rd_69 (by omega) (by omega) (by omega) (by omega) (fun h32 fh32 => ?_)
            have gh32 : my_fr [(10, 7), (10, 8), (67, -1), (68, -1), (69, -1)] h h32 := my_fr.up gh12 is_170 fh32 rfl
            have Mq_h32 : Mq h32 wv := Mq_u (a := 170) hwv (by decide) (by omega) fh32 Mq_h12
            have P6_h32 : h32 167 6 = h 167 6 := P6_ag (my_ag.up fh32 is_170 rfl) P6_h12
            have Tok_h32 : Tok h32 := Tok_ag (my_ag.up fh32 is_170 rfl) Tok_h12t16
            have ce33 : h32 151 7 = h12 151 7 := ((my_up_role fh32 is_151 is_170 rfl).trans (rfl : h12 151 7 = h12 151 7))
            have ce34 : h32 151 27 = k151_27 := ((my_up_role fh32 is_151 is_170 rfl).trans ((my_fr.at frh12 is_151 rfl).trans ((my_up_role fh9 is_151 is_168 rfl).trans ((my_up_fld fh6 (by decide)).trans c151_27_20_0))))
            have ce35 : h32 151 8 = (h12 151 8) := ((my_up_role fh32 is_151 is_170 rfl).trans (rfl : h12 151 8 = h12 151 8))
            have a168 : ∀ j : Int, h32 168 j = h9 168 j := fun j => ((my_up_role fh32 is_168 is_170 rfl).trans ((my_fr.at frh12 is_168 rfl).trans (rfl : h9 168 j = h9 168 j)))
            have a169 : ∀ j : Int, h32 169 j = h20_0 169 j := fun j => ((my_up_role fh32 is_169 is_170 rfl).trans ((my_fr.at frh12 is_169 rfl).trans ((my_up_role fh9 is_169 is_168 rfl).trans ((my_up_role fh6 is_169 is_151 rfl).trans (rfl : h20_0 169 j = h20_0 169 j)))))
            have c36 := ((my_up_role fh32 is_151 is_170 rfl).trans (rfl : h12 151 8 = h12 151 8))
            exact w_vret gz_186_87 gm_186 (k0 h32 (gh32) (by omega) (by omega) (by first | omega | (refine ⟨fun q => ?_, fun q => ?_⟩ <;> (rw [a168, k168] at q; omega)) | (refine ⟨fun q => ?_, fun q => ?_, fun q => ?_⟩ <;> first | (exfalso; rw [a168, k168] at q; omega) | (rw [a169]; have z := k9_20_0 (by omega); omega))) Tok_h32 Mq_h32)
          ·
            have gh17 : my_fr [(10, 7), (10, 8), (67, -1), (68, -1), (69, -1)] h h17 := my_fr.tr gh9 (frh17.mo rfl)
            have Mq_h17 : Mq h17 wv := Mq_ag (my_ag.fr frh17 rfl) Mq_h9
            have P6_h17 : h17 167 6 = h 167 6 := P6_ag (my_ag.fr frh17 rfl) P6_h9
            show wp l rho (d + 2) 186 86 [(2, 151), (0, x1), (0, p20_0), (0, p20_1)] [(0, v18), (0, x1), (2, 170)] h17 Q
            have hi37 : 0 ≤ v18 := by omega
            have hi38 : v18 ≤ 199 := by omega
            refine w_iast gz_186_86 is_170 rd_69 (by omega) (by omega) (by omega) (by omega) (fun h39 fh39 => ?_)
            have gh39 : my_fr [(10, 7), (10, 8), (67, -1), (68, -1), (69, -1)] h h39 := my_fr.up gh17 is_170 fh39 rfl
            have Mq_h39 : Mq h39 wv := Mq_u (a := 170) hwv (by decide) (by omega) fh39 Mq_h17
            have P6_h39 : h39 167 6 = h 167 6 := P6_ag (my_ag.up fh39 is_170 rfl) P6_h17
            have Tok_h39 : Tok h39 := Tok_ag (my_ag.up fh39 is_170 rfl) Tok_h17t29
            have ce40 : h39 151 7 = (h17 151 7) := ((my_up_role fh39 is_151 is_170 rfl).trans (rfl : h17 151 7 = h17 151 7))
            have ce41 : h39 151 27 = k151_27 := ((my_up_role fh39 is_151 is_170 rfl).trans ((my_fr.at frh17 is_151 rfl).trans ((my_up_role fh9 is_151 is_168 rfl).trans ((my_up_fld fh6 (by decide)).trans c151_27_20_0))))
            have ce42 : h39 151 8 = 0 := ((my_up_role fh39 is_151 is_170 rfl).trans w23)
            have a168 : ∀ j : Int, h39 168 j = h9 168 j := fun j => ((my_up_role fh39 is_168 is_170 rfl).trans ((my_fr.at frh17 is_168 rfl).trans (rfl : h9 168 j = h9 168 j)))
            have a169 : ∀ j : Int, h39 169 j = h20_0 169 j := fun j => ((my_up_role fh39 is_169 is_170 rfl).trans ((my_fr.at frh17 is_169 rfl).trans ((my_up_role fh9 is_169 is_168 rfl).trans ((my_up_role fh6 is_169 is_151 rfl).trans (rfl : h20_0 169 j = h20_0 169 j)))))
            have c43 := ((my_up_role fh39 is_151 is_170 rfl).trans (rfl : h17 151 7 = h17 151 7))
            have c44 := ((my_up_role fh39 is_151 is_170 rfl).trans w23)
            exact w_vret gz_186_87 gm_186 (k1 h39 (gh39) (by omega) (by omega) (by omega) (by first | omega | (refine ⟨fun q => ?_, fun q => ?_⟩ <;> (rw [a168, k168] at q; omega)) | (refine ⟨fun q => ?_, fun q => ?_, fun q => ?_⟩ <;> first | (exfalso; rw [a168, k168] at q; omega) | (rw [a169]; have z := k9_20_0 (by omega); omega))) (by first | omega | (refine ⟨fun q => ?_, fun q => ?_⟩ <;> (rw [a168, k168] at q; omega)) | (refine ⟨fun q => ?_, fun q => ?_, fun q => ?_⟩ <;> first | (exfalso; rw [a168, k168] at q; omega) | (rw [a169]; have z := k9_20_0 (by omega); omega))) (by first | omega | (refine ⟨fun q => ?_, fun q => ?_⟩ <;> (rw [a168, k168] at q; omega)) | (refine ⟨fun q => ?_, fun q => ?_, fun q => ?_⟩ <;> first | (exfalso; rw [a168, k168] at q; omega) | (rw [a169]; have z := k9_20_0 (by omega); omega))) Tok_h39 Mq_h39)
        ·
          refine w_aload_n gz_186_51 rfl ?_
          refine w_iconst gz_186_52 (by decide) ?_
          refine w_inv (k := 0) (as := [(0, 1)]) (r := []) (x := 151) (ls0 := [(2, 151), (0, 1)]) gz_186_53 gm_178 rfl is_151 rd_10 rfl rfl rfl rfl rfl ?_
          refine w_aload_n gz_178_0 rfl ?_
          refine v_getI (j := 8) gz_178_1 rfl is_151 rd_10 rfl (fun v45 ev45 pv45 qv45 => ?_)
          have zv45 := ev45.trans c151_8_20_0
          refine w_ifne (t := 25) gz_178_4 rfl (fun u46 => ?_) (fun u46 => ?_)
          ·
            refine w_vret gz_178_25 gm_178 ?_
            show wp l rho (d + 2) 186 56 [(2, 151), (0, x1), (0, p20_0), (0, p20_1)] [] h20_0 Q
            have ce47 : h20_0 151 27 = k151_27 := c151_27_20_0
            have ce48 : h20_0 151 8 = v45 := ev45.symm
            have a168 : ∀ j : Int, h20_0 168 j = h20_0 168 j := fun j => rfl
            have a169 : ∀ j : Int, h20_0 169 j = h20_0 169 j := fun _ => rfl
            have c49 := ev45.symm
            exact w_vret gz_186_56 gm_186 (k0 h20_0 (gh_20_0) (by omega) (by omega) (by first | omega | (refine ⟨fun q => ?_, fun q => ?_⟩ <;> (rw [a168, k168] at q; omega)) | (refine ⟨fun q => ?_, fun q => ?_, fun q => ?_⟩ <;> first | (exfalso; rw [a168, k168] at q; omega) | (rw [a169]; have z := k9_20_0 (by omega); omega))) n_Tok_20_0 n_Mq_20_0)
          ·
            refine w_aload_n gz_178_7 rfl ?_
            refine w_iload_n gz_178_8 rfl ?_
            refine w_bipush gz_178_9 (by decide) ?_
            refine w_aload_n gz_178_11 rfl ?_
            refine w_getX (v := 154) gz_178_12 is_151 rd_10 rfl (by decide) rfl ?_
            refine w_aload_n gz_178_15 rfl ?_
            refine v_getI (j := 7) gz_178_16 rfl is_151 rd_10 rfl (fun v51 ev51 pv51 qv51 => ?_)
            refine w_iald gz_178_19 is_154 rd_53 (by omega) (by omega) (fun v52 ev52 pv52 qv52 => ?_)
            refine w_imul gz_178_20 ⟨by omega, by omega⟩ ?_
            refine w_iadd gz_178_21 ⟨by omega, by omega⟩ ?_
            refine v_putI (j := 8) gz_178_22 rfl is_151 rd_10 rfl (by omega) (by omega) rfl (fun h53 fh53 => ?_)
            have gh53 : my_fr [(10, 7), (10, 8), (67, -1), (68, -1), (69, -1)] h h53 := my_fr.up gh_20_0 is_151 fh53 rfl
            have Tok_h53 : Tok h53 := Tok_ag (my_ag.up fh53 is_151 rfl) n_Tok_20_0
            have Mq_h53 : Mq h53 wv := Mq_ag (my_ag.up fh53 is_151 rfl) n_Mq_20_0
            have P6_h53 : h53 167 6 = h 167 6 := P6_ag (my_ag.up fh53 is_151 rfl) n_P6_20_0
            refine w_vret gz_178_25 gm_178 ?_
            show wp l rho (d + 2) 186 56 [(2, 151), (0, x1), (0, p20_0), (0, p20_1)] [] h53 Q
            have ce54 : h53 151 7 = v51 := ((my_up_fld fh53 (by decide)).trans ev51.symm)
            have ce55 : h53 151 27 = k151_27 := ((my_up_fld fh53 (by decide)).trans c151_27_20_0)
            have ce56 : h53 151 8 = (1 + (16 * v52)) := (my_up_self fh53)
            have a168 : ∀ j : Int, h53 168 j = h53 168 j := fun j => rfl
            have a169 : ∀ j : Int, h53 169 j = h20_0 169 j := fun j => ((my_up_role fh53 is_169 is_151 rfl).trans (rfl : h20_0 169 j = h20_0 169 j))
            have c57 := (my_up_self fh53)
            exact w_vret gz_186_56 gm_186 (k0 h53 (gh53) (by omega) (by omega) (by first | omega | (refine ⟨fun q => ?_, fun q => ?_⟩ <;> (rw [a168, k168] at q; omega)) | (refine ⟨fun q => ?_, fun q => ?_, fun q => ?_⟩ <;> first | (exfalso; rw [a168, k168] at q; omega) | (rw [a169]; have z := k9_20_0 (by omega); omega))) Tok_h53 Mq_h53)
      ·
        refine w_aload_n gz_186_25 rfl ?_
        refine w_iconst gz_186_26 (by decide) ?_
        refine w_iload_n gz_186_27 rfl ?_
        refine w_iadd gz_186_28 ⟨by omega, by omega⟩ ?_
        refine w_inv (k := 0) (as := [(0, (4 + p20_1))]) (r := []) (x := 151) (ls0 := [(2, 151), (0, (4 + p20_1))]) gz_186_29 gm_177 rfl is_151 rd_10 rfl rfl rfl rfl rfl (c_Model_isWord_fq (d := (d + 1)) (x1 := (4 + p20_1)) (by omega) (by omega) (fun w58 w59 => ?_) (fun w60 => ?_) (fun w61 xp62 xp63 => ?_))
        ·
          show wp l rho (d + 2) 186 32 [(2, 151), (0, x1), (0, p20_0), (0, p20_1)] [(0, 0)] h20_0 Q
          refine w_ifeq (t := 39) gz_186_32 rfl (fun u64 => ?_) (fun u64 => by exfalso; omega)
          refine w_iload_n gz_186_39 rfl ?_
          refine w_istore_n (ls' := [(2, 151), (0, x1), (0, p20_0), (0, p20_1)]) gz_186_40 gm_186 rfl rfl rfl ?_
          refine w_iinc (ls' := [(2, 151), (0, x1), (0, p20_0), (0, (p20_1 + 1))]) gz_186_41 rfl gm_186 rfl rfl rfl ⟨by omega, by omega⟩ ?_
          refine w_goto (t := 20) gz_186_44 rfl ?_
          have ce65 : h20_0 151 8 = p20_2 := c151_8_20_0
          have a153 : ∀ j : Int, h20_0 153 j = h20_0 153 j := fun _ => rfl
          have a169 : ∀ j : Int, h20_0 169 j = h20_0 169 j := fun _ => rfl
          exact ih_20_0 (p20_0) ((p20_1 + 1)) (p20_2) h20_0 (gh_20_0) (by omega) (by omega) (by omega) (by omega) (by omega) (by omega) (by omega) (c151_27_20_0.trans (by omega)) (c151_8_20_0.trans (by omega)) n_Tok_20_0 n_Mq_20_0 n_P6_20_0 (by first | omega | (intro q; rw [a153]; subst_vars; omega) | (subst_vars; omega) | (intro _; assumption)) (by omega) (by first | (intro q; exfalso; omega) | (intro q; rw [a169, k169]; omega) | (intro q; rw [a169]; exact k9_20_0 (by omega))) (by omega)
        ·
          show wp l rho (d + 2) 186 32 [(2, 151), (0, x1), (0, p20_0), (0, p20_1)] [(0, 0)] h20_0 Q
          refine w_ifeq (t := 39) gz_186_32 rfl (fun u66 => ?_) (fun u66 => by exfalso; omega)
          refine w_iload_n gz_186_39 rfl ?_
          refine w_istore_n (ls' := [(2, 151), (0, x1), (0, p20_0), (0, p20_1)]) gz_186_40 gm_186 rfl rfl rfl ?_
          refine w_iinc (ls' := [(2, 151), (0, x1), (0, p20_0), (0, (p20_1 + 1))]) gz_186_41 rfl gm_186 rfl rfl rfl ⟨by omega, by omega⟩ ?_
          refine w_goto (t := 20) gz_186_44 rfl ?_
          have ce67 : h20_0 151 8 = p20_2 := c151_8_20_0
          have a153 : ∀ j : Int, h20_0 153 j = h20_0 153 j := fun _ => rfl
          have a169 : ∀ j : Int, h20_0 169 j = h20_0 169 j := fun _ => rfl
          exact ih_20_0 (p20_0) ((p20_1 + 1)) (p20_2) h20_0 (gh_20_0) (by omega) (by omega) (by omega) (by omega) (by omega) (by omega) (by omega) (c151_27_20_0.trans (by omega)) (c151_8_20_0.trans (by omega)) n_Tok_20_0 n_Mq_20_0 n_P6_20_0 (by first | omega | (intro q; rw [a153]; subst_vars; omega) | (subst_vars; omega) | (intro _; assumption)) (by omega) (by first | (intro q; exfalso; omega) | (intro q; rw [a169, k169]; omega) | (intro q; rw [a169]; exact k9_20_0 (by omega))) (by omega)
        ·
          show wp l rho (d + 2) 186 32 [(2, 151), (0, x1), (0, p20_0), (0, p20_1)] [(0, 1)] h20_0 Q
          refine w_ifeq (t := 39) gz_186_32 rfl (fun u68 => by exfalso; omega) (fun u68 => ?_)
          refine w_iload_n gz_186_35 rfl ?_
          refine w_goto (t := 40) gz_186_36 rfl ?_
          refine w_istore_n (ls' := [(2, 151), (0, x1), (0, p20_1), (0, p20_1)]) gz_186_40 gm_186 rfl rfl rfl ?_
          refine w_iinc (ls' := [(2, 151), (0, x1), (0, p20_1), (0, (p20_1 + 1))]) gz_186_41 rfl gm_186 rfl rfl rfl ⟨by omega, by omega⟩ ?_
          refine w_goto (t := 20) gz_186_44 rfl ?_
          have ce69 : h20_0 151 8 = p20_2 := c151_8_20_0
          have a153 : ∀ j : Int, h20_0 153 j = h20_0 153 j := fun _ => rfl
          have a169 : ∀ j : Int, h20_0 169 j = h20_0 169 j := fun _ => rfl
          exact ih_20_0 (p20_1) ((p20_1 + 1)) (p20_2) h20_0 (gh_20_0) (by omega) (by omega) (by omega) (by omega) (by omega) (by omega) (by omega) (c151_27_20_0.trans (by omega)) (c151_8_20_0.trans (by omega)) n_Tok_20_0 n_Mq_20_0 n_P6_20_0 (by first | omega | (intro q; rw [a153]; subst_vars; omega) | (subst_vars; omega) | (intro _; assumption)) (by omega) (by first | (intro q; exfalso; omega) | (intro q; rw [a169, k169]; omega) | (intro q; rw [a169]; exact k9_20_0 (by omega))) (by omega)
  refine w_aload_n gz_186_0 rfl ?_
  refine w_getX (v := 169) gz_186_1 is_151 rd_10 rfl (by decide) rfl ?_
  refine w_iload_n gz_186_4 rfl ?_
  refine w_aload_n gz_186_5 rfl ?_
  refine w_aload_n gz_186_6 rfl ?_
  refine v_getI (j := 27) gz_186_7 rfl is_151 rd_10 rfl (fun v71 ev71 pv71 qv71 => ?_)
  have zv71 := ev71.trans ek151_27.symm
  refine w_iconst gz_186_10 (by decide) ?_
  refine w_isub gz_186_11 ⟨by omega, by omega⟩ ?_
  refine w_inv (k := 0) (as := [(0, (v71 - 1))]) (r := [(0, x1), (2, 169)]) (x := 151) (ls0 := [(2, 151), (0, (v71 - 1))]) gz_186_12 gm_187 rfl is_151 rd_10 rfl rfl rfl rfl rfl (c_Model_takeNumber2_f0 (d := d) (x1 := (v71 - 1)) (by omega) (by omega) (cf.trans (by omega)) n_Tok (fun h72 frh72 w73 w74 xp75 Tok_h72t76 => ?_) (fun h77 v78 frh77 w79 w80 w81 w82 w83 xp84 xp85 xp86 xp87 xp88 Tok_h77t89 => ?_))
  ·
    have gh72 : my_fr [(10, 7), (10, 8), (67, -1), (68, -1), (69, -1)] h h72 := my_fr.tr my_fr.rf (frh72.mo rfl)
    have Mq_h72 : Mq h72 wv := Mq_ag (my_ag.fr frh72 rfl) n_Mq
    have P6_h72 : h72 167 6 = h 167 6 := P6_ag (my_ag.fr frh72 rfl) (rfl)
    show wp l rho (d + 2) 186 15 [(2, 151), (0, x1), (9, 0), (9, 0)] [(0, 0), (0, x1), (2, 169)] h72 Q
    have hi90 : 0 ≤ 0 := by omega
    have hi91 : 0 ≤ 7 := by omega
    refine w_iast gz_186_15 is_169 rd_68 (by omega) (by omega) (by omega) (by omega) (fun h92 fh92 => ?_)
    have gh92 : my_fr [(10, 7), (10, 8), (67, -1), (68, -1), (69, -1)] h h92 := my_fr.up gh72 is_169 fh92 rfl
    have Mq_h92 : Mq h92 wv := Mq_u (a := 169) hwv (by decide) (by omega) fh92 Mq_h72
    have P6_h92 : h92 167 6 = h 167 6 := P6_ag (my_ag.up fh92 is_169 rfl) P6_h72
    have Tok_h92 : Tok h92 := Tok_ag (my_ag.up fh92 is_169 rfl) Tok_h72t76
    have k169 := my_up_self fh92
    refine w_iconst gz_186_16 (by decide) ?_
    refine w_istore_n (ls' := [(2, 151), (0, x1), (0, (-1)), (9, 0)]) gz_186_17 gm_186 rfl rfl rfl ?_
    refine w_iconst gz_186_18 (by decide) ?_
    refine w_istore_n (ls' := [(2, 151), (0, x1), (0, (-1)), (0, 0)]) gz_186_19 gm_186 rfl rfl rfl ?_
    have ce93 : h92 151 7 = h72 151 7 := ((my_up_role fh92 is_151 is_169 rfl).trans (rfl : h72 151 7 = h72 151 7))
    have ce94 : h92 151 8 = (h72 151 8) := ((my_up_role fh92 is_151 is_169 rfl).trans (rfl : h72 151 8 = h72 151 8))
    have a153 : ∀ j : Int, h92 153 j = h 153 j := fun j => ((my_up_role fh92 is_153 is_169 rfl).trans ((my_fr.at frh72 is_153 rfl).trans (rfl : h 153 j = h 153 j)))
    have a169 : ∀ j : Int, h92 169 j = h 169 j := fun j => ((my_up_ne fh92 (by omega)).trans ((my_fr.at frh72 is_169 rfl).trans (rfl : h 169 j = h 169 j)))
    exact J20_0 4 ((-1)) (0) ((h72 151 8)) h92 (gh92) (by omega) (by omega) (by omega) (by omega) (by omega) (by omega) (by omega) (((my_up_role fh92 is_151 is_169 rfl).trans ((my_fr.at frh72 is_151 rfl).trans ev71.symm)).trans (by omega)) (((my_up_role fh92 is_151 is_169 rfl).trans (rfl : h72 151 8 = h72 151 8)).trans (by omega)) Tok_h92 Mq_h92 P6_h92 (by first | omega | (intro q; rw [a153]; subst_vars; omega) | (subst_vars; omega) | (intro _; assumption)) (by omega) (by first | (intro q; exfalso; omega) | (intro q; rw [a169, k169]; omega) | (intro q; rw [a169]; exact k9_20_0 (by omega))) (by omega)
  ·
    have gh77 : my_fr [(10, 7), (10, 8), (67, -1), (68, -1), (69, -1)] h h77 := my_fr.tr my_fr.rf (frh77.mo rfl)
    have Mq_h77 : Mq h77 wv := Mq_ag (my_ag.fr frh77 rfl) n_Mq
    have P6_h77 : h77 167 6 = h 167 6 := P6_ag (my_ag.fr frh77 rfl) (rfl)
    show wp l rho (d + 2) 186 15 [(2, 151), (0, x1), (9, 0), (9, 0)] [(0, v78), (0, x1), (2, 169)] h77 Q
    have hi95 : 0 ≤ v78 := by omega
    have hi96 : v78 ≤ 7 := by omega
    refine w_iast gz_186_15 is_169 rd_68 (by omega) (by omega) (by omega) (by omega) (fun h97 fh97 => ?_)
    have gh97 : my_fr [(10, 7), (10, 8), (67, -1), (68, -1), (69, -1)] h h97 := my_fr.up gh77 is_169 fh97 rfl
    have Mq_h97 : Mq h97 wv := Mq_u (a := 169) hwv (by decide) (by omega) fh97 Mq_h77
    have P6_h97 : h97 167 6 = h 167 6 := P6_ag (my_ag.up fh97 is_169 rfl) P6_h77
    have Tok_h97 : Tok h97 := Tok_ag (my_ag.up fh97 is_169 rfl) Tok_h77t89
    have k169 := my_up_self fh97
    refine w_iconst gz_186_16 (by decide) ?_
    refine w_istore_n (ls' := [(2, 151), (0, x1), (0, (-1)), (9, 0)]) gz_186_17 gm_186 rfl rfl rfl ?_
    refine w_iconst gz_186_18 (by decide) ?_
    refine w_istore_n (ls' := [(2, 151), (0, x1), (0, (-1)), (0, 0)]) gz_186_19 gm_186 rfl rfl rfl ?_
    have ce98 : h97 151 7 = (h77 151 7) := ((my_up_role fh97 is_151 is_169 rfl).trans (rfl : h77 151 7 = h77 151 7))
    have ce99 : h97 151 8 = 0 := ((my_up_role fh97 is_151 is_169 rfl).trans w83)
    have a153 : ∀ j : Int, h97 153 j = h 153 j := fun j => ((my_up_role fh97 is_153 is_169 rfl).trans ((my_fr.at frh77 is_153 rfl).trans (rfl : h 153 j = h 153 j)))
    have a169 : ∀ j : Int, h97 169 j = h 169 j := fun j => ((my_up_ne fh97 (by omega)).trans ((my_fr.at frh77 is_169 rfl).trans (rfl : h 169 j = h 169 j)))
    exact J20_0 4 ((-1)) (0) (0) h97 (gh97) (by omega) (by omega) (by omega) (by omega) (by omega) (by omega) (by omega) (((my_up_role fh97 is_151 is_169 rfl).trans ((my_fr.at frh77 is_151 rfl).trans ev71.symm)).trans (by omega)) (((my_up_role fh97 is_151 is_169 rfl).trans w83).trans (by omega)) Tok_h97 Mq_h97 P6_h97 (by first | omega | (intro q; rw [a153]; subst_vars; omega) | (subst_vars; omega) | (intro _; assumption)) (by omega) (by first | (intro q; exfalso; omega) | (intro q; rw [a169, k169]; omega) | (intro q; rw [a169]; exact k9_20_0 (by omega))) (by omega)
theorem c_Model_readJoin_f0 {l : Launch} {rho : Nat → Int32} {d : Nat} {h : my_H} {Q : my_H → my_V → Prop} {x1 : Int} {wv : Int} (a1 : 36 ≤ x1) (b1 : x1 ≤ 41) (cf : h 151 8 = 0) (hwv : wv ≤ 5) (hwv0 : 0 ≤ wv) (n_Tok : Tok h) (n_Mq : Mq h wv) (hp : x1 = 36 + h 167 6) (k0 : ∀ (h' : my_H), my_fr [(10, 7), (10, 8), (67, -1), (68, -1), (69, -1)] h h' → 1 ≤ h' 151 8 → h' 151 8 ≤ 16005 → h 151 7 ≤ h' 151 7 → Tok h' → Mq h' wv → Q h' (9, 0)) (k1 : ∀ (h' : my_H), my_fr [(10, 7), (10, 8), (67, -1), (68, -1), (69, -1)] h h' → 1 ≤ h' 151 7 → h' 151 7 ≤ 1001 → h' 151 8 = 0 → PaneOk h' x1 → Pk3 h' x1 (h' 151 27) → h 151 7 ≤ h' 151 7 → Tok h' → Mq h' wv → Q h' (9, 0)) : wp l rho (d + 3) 189 0 [(2, 151), (0, x1), (9, 0)] [] h Q := by
  refine v_know (x := 151) (j := 7) (b := 7) rfl is_151 rd_10 rfl (fun k151_7 ek151_7 pk151_7 qk151_7 => ?_)
  refine v_know (x := 151) (j := 27) (b := 27) rfl is_151 rd_10 rfl (fun k151_27 ek151_27 pk151_27 qk151_27 => ?_)
  refine w_aload_n gz_189_0 rfl ?_
  refine w_getX (v := 168) gz_189_1 is_151 rd_10 rfl (by decide) rfl ?_
  refine w_iload_n gz_189_4 rfl ?_
  refine w_iconst gz_189_5 (by decide) ?_
  refine w_iast gz_189_6 is_168 rd_67 (by omega) (by omega) (by omega) (by omega) (fun h2 fh2 => ?_)
  have gh2 : my_fr [(10, 7), (10, 8), (67, -1), (68, -1), (69, -1)] h h2 := my_fr.up my_fr.rf is_168 fh2 rfl
  have Tok_h2 : Tok h2 := Tok_ag (my_ag.up fh2 is_168 rfl) n_Tok
  have Mq_h2 : Mq h2 wv := Mq_u (a := 168) hwv (by decide) (by omega) fh2 n_Mq
  have P6_h2 : h2 167 6 = h 167 6 := P6_ag (my_ag.up fh2 is_168 rfl) (rfl)
  have k168 : h2 168 x1 = 4 := my_up_self fh2
  refine w_aload_n gz_189_7 rfl ?_
  refine v_getI (j := 8) gz_189_8 rfl is_151 rd_10 rfl (fun v3 ev3 pv3 qv3 => ?_)
  have zv3 := ev3.trans ((my_up_role fh2 is_151 is_168 rfl).trans cf)
  refine w_ifne (t := 89) gz_189_11 rfl (fun u4 => by exfalso; omega) (fun u4 => ?_)
  refine w_aload_n gz_189_14 rfl ?_
  refine w_getX (v := 153) gz_189_15 is_151 rd_10 rfl (by decide) rfl ?_
  refine w_aload_n gz_189_18 rfl ?_
  refine v_getI (j := 7) gz_189_19 rfl is_151 rd_10 rfl (fun v6 ev6 pv6 qv6 => ?_)
  have zv6 := ev6.trans ((my_up_role fh2 is_151 is_168 rfl).trans ek151_7.symm)
  refine w_iald gz_189_22 is_153 rd_52 (by omega) (by omega) (fun v7 ev7 pv7 qv7 => ?_)
  refine w_iconst gz_189_23 (by decide) ?_
  refine w_icne (t := 89) gz_189_24 rfl (fun u8 => ?_) (fun u8 => ?_)
  ·
    refine w_aload_n gz_189_89 rfl ?_
    refine w_getX (v := 170) gz_189_90 is_151 rd_10 rfl (by decide) rfl ?_
    refine w_iload_n gz_189_93 rfl ?_
    refine w_aload_n gz_189_94 rfl ?_
    refine w_iconst gz_189_95 (by decide) ?_
    have ce10 : h2 151 7 = v6 := ev6.symm
    refine w_inv (k := 0) (as := [(0, 2)]) (r := [(0, x1), (2, 170)]) (x := 151) (ls0 := [(2, 151), (0, 2)]) gz_189_96 gm_187 rfl is_151 rd_10 rfl rfl rfl rfl rfl (c_Model_takeNumber2_f0 (d := (d + 1)) (x1 := 2) (by omega) (by omega) (ev3.symm.trans (by omega)) Tok_h2 (fun h11 frh11 w12 w13 xp14 Tok_h11t15 => ?_) (fun h16 v17 frh16 w18 w19 w20 w21 w22 xp23 xp24 xp25 xp26 xp27 Tok_h16t28 => ?_))
    ·
      have gh11 : my_fr [(10, 7), (10, 8), (67, -1), (68, -1), (69, -1)] h h11 := my_fr.tr gh2 (frh11.mo rfl)
      have Mq_h11 : Mq h11 wv := Mq_ag (my_ag.fr frh11 rfl) Mq_h2
      have P6_h11 : h11 167 6 = h 167 6 := P6_ag (my_ag.fr frh11 rfl) P6_h2
      show wp l rho (d + 3) 189 99 [(2, 151), (0, x1), (9, 0)] [(0, 0), (0, x1), (2, 170)] h11 Q
      have hi29 : 0 ≤ 0 := by omega
      have hi30 : 0 ≤ 2 := by omega
      refine w_iast gz_189_99 is_170 rd_69 (by omega) (by omega) (by omega) (by omega) (fun h31 fh31 => ?_)
      have gh31 : my_fr [(10, 7), (10, 8), (67, -1), (68, -1), (69, -1)] h h31 := my_fr.up gh11 is_170 fh31 rfl
      have Mq_h31 : Mq h31 wv := Mq_u (a := 170) hwv (by decide) (by omega) fh31 Mq_h11
      have P6_h31 : h31 167 6 = h 167 6 := P6_ag (my_ag.up fh31 is_170 rfl) P6_h11
      have Tok_h31 : Tok h31 := Tok_ag (my_ag.up fh31 is_170 rfl) Tok_h11t15
      have k170 := my_up_self fh31
      refine w_aload_n gz_189_100 rfl ?_
      refine w_bipush gz_189_101 (by decide) ?_
      have ce32 : h31 151 7 = h11 151 7 := ((my_up_role fh31 is_151 is_170 rfl).trans (rfl : h11 151 7 = h11 151 7))
      refine w_inv (k := 0) (as := [(0, 9)]) (r := []) (x := 151) (ls0 := [(2, 151), (0, 9)]) gz_189_103 gm_175 rfl is_151 rd_10 rfl rfl rfl rfl rfl (c_Model_takeWord_f1 (d := d)  ((h11 151 8)) (((my_up_role fh31 is_151 is_170 rfl).trans (rfl : h11 151 8 = h11 151 8))) (by omega) (by omega) Tok_h31 (fun h33 frh33 w34 w35 xp36 Tok_h33t37 => ?_))
      have gh33 : my_fr [(10, 7), (10, 8), (67, -1), (68, -1), (69, -1)] h h33 := my_fr.tr gh31 (frh33.mo rfl)
      have Mq_h33 : Mq h33 wv := Mq_ag (my_ag.fr frh33 rfl) Mq_h31
      have P6_h33 : h33 167 6 = h 167 6 := P6_ag (my_ag.fr frh33 rfl) P6_h31
      show wp l rho (d + 3) 189 106 [(2, 151), (0, x1), (9, 0)] [] h33 Q
      refine w_aload_n gz_189_106 rfl ?_
      refine w_getX (v := 169) gz_189_107 is_151 rd_10 rfl (by decide) rfl ?_
      refine w_iload_n gz_189_110 rfl ?_
      refine w_aload_n gz_189_111 rfl ?_
      refine w_aload_n gz_189_112 rfl ?_
      refine v_getI (j := 27) gz_189_113 rfl is_151 rd_10 rfl (fun v39 ev39 pv39 qv39 => ?_)
      have zv39 := ev39.trans ((my_fr.at frh33 is_151 rfl).trans ((my_up_role fh31 is_151 is_170 rfl).trans ((my_fr.at frh11 is_151 rfl).trans ((my_up_role fh2 is_151 is_168 rfl).trans ek151_27.symm))))
      refine w_iconst gz_189_116 (by decide) ?_
      refine w_isub gz_189_117 ⟨by omega, by omega⟩ ?_
      refine w_inv (k := 0) (as := [(0, (v39 - 1))]) (r := [(0, x1), (2, 169)]) (x := 151) (ls0 := [(2, 151), (0, (v39 - 1))]) gz_189_118 gm_187 rfl is_151 rd_10 rfl rfl rfl rfl rfl (c_Model_takeNumber2_f1 (d := (d + 1)) (x1 := (v39 - 1)) (by omega) (by omega) ((h11 151 8)) (((my_fr.at frh33 is_151 rfl).trans ((my_up_role fh31 is_151 is_170 rfl).trans (rfl : h11 151 8 = h11 151 8)))) (by omega) (by omega) Tok_h33t37 (fun w40 w41 xp42 Tok_h33t43 => ?_))
      show wp l rho (d + 3) 189 121 [(2, 151), (0, x1), (9, 0)] [(0, 0), (0, x1), (2, 169)] h33 Q
      have hi44 : 0 ≤ 0 := by omega
      have hi45 : 0 ≤ 7 := by omega
      refine w_iast gz_189_121 is_169 rd_68 (by omega) (by omega) (by omega) (by omega) (fun h46 fh46 => ?_)
      have gh46 : my_fr [(10, 7), (10, 8), (67, -1), (68, -1), (69, -1)] h h46 := my_fr.up gh33 is_169 fh46 rfl
      have Mq_h46 : Mq h46 wv := Mq_u (a := 169) hwv (by decide) (by omega) fh46 Mq_h33
      have P6_h46 : h46 167 6 = h 167 6 := P6_ag (my_ag.up fh46 is_169 rfl) P6_h33
      have Tok_h46 : Tok h46 := Tok_ag (my_ag.up fh46 is_169 rfl) Tok_h33t43
      have ce47 : h46 151 7 = h33 151 7 := ((my_up_role fh46 is_151 is_169 rfl).trans (rfl : h33 151 7 = h33 151 7))
      have ce48 : h46 151 27 = v39 := ((my_up_role fh46 is_151 is_169 rfl).trans ev39.symm)
      have a168 : ∀ j : Int, h46 168 j = h2 168 j := fun j => ((my_up_role fh46 is_168 is_169 rfl).trans ((my_fr.at frh33 is_168 rfl).trans ((my_up_role fh31 is_168 is_170 rfl).trans ((my_fr.at frh11 is_168 rfl).trans (rfl : h2 168 j = h2 168 j)))))
      have a170 : ∀ j : Int, h46 170 j = h31 170 j := fun j => ((my_up_role fh46 is_170 is_169 rfl).trans ((my_fr.at frh33 is_170 rfl).trans (rfl : h31 170 j = h31 170 j)))
      have a157 : ∀ j : Int, h46 157 j = h 157 j := fun j => ((my_up_role fh46 is_157 is_169 rfl).trans ((my_fr.at frh33 is_157 rfl).trans ((my_up_role fh31 is_157 is_170 rfl).trans ((my_fr.at frh11 is_157 rfl).trans ((my_up_role fh2 is_157 is_168 rfl).trans (rfl : h 157 j = h 157 j))))))
      have c49 := ((my_up_role fh46 is_151 is_169 rfl).trans ((my_fr.at frh33 is_151 rfl).trans ((my_up_role fh31 is_151 is_170 rfl).trans (rfl : h11 151 8 = h11 151 8))))
      exact w_vret gz_189_122 gm_189 (k0 h46 (gh46) (by omega) (by omega) (by first | omega | (exfalso; subst_vars; omega) | (refine ⟨fun q => ?_, fun q => ?_⟩ <;> first | (rw [a168, k168] at q; omega) | (have kz := k170.trans (show _ = vz by omega); rw [a170, kz, a157]; omega))) Tok_h46 Mq_h46)
    ·
      have gh16 : my_fr [(10, 7), (10, 8), (67, -1), (68, -1), (69, -1)] h h16 := my_fr.tr gh2 (frh16.mo rfl)
      have Mq_h16 : Mq h16 wv := Mq_ag (my_ag.fr frh16 rfl) Mq_h2
      have P6_h16 : h16 167 6 = h 167 6 := P6_ag (my_ag.fr frh16 rfl) P6_h2
      show wp l rho (d + 3) 189 99 [(2, 151), (0, x1), (9, 0)] [(0, v17), (0, x1), (2, 170)] h16 Q
      have hi50 : 0 ≤ v17 := by omega
      have hi51 : v17 ≤ 2 := by omega
      refine w_iast gz_189_99 is_170 rd_69 (by omega) (by omega) (by omega) (by omega) (fun h52 fh52 => ?_)
      have gh52 : my_fr [(10, 7), (10, 8), (67, -1), (68, -1), (69, -1)] h h52 := my_fr.up gh16 is_170 fh52 rfl
      have Mq_h52 : Mq h52 wv := Mq_u (a := 170) hwv (by decide) (by omega) fh52 Mq_h16
      have P6_h52 : h52 167 6 = h 167 6 := P6_ag (my_ag.up fh52 is_170 rfl) P6_h16
      have Tok_h52 : Tok h52 := Tok_ag (my_ag.up fh52 is_170 rfl) Tok_h16t28
      have k170 := my_up_self fh52
      refine w_aload_n gz_189_100 rfl ?_
      refine w_bipush gz_189_101 (by decide) ?_
      have ce53 : h52 151 7 = (h16 151 7) := ((my_up_role fh52 is_151 is_170 rfl).trans (rfl : h16 151 7 = h16 151 7))
      refine w_inv (k := 0) (as := [(0, 9)]) (r := []) (x := 151) (ls0 := [(2, 151), (0, 9)]) gz_189_103 gm_175 rfl is_151 rd_10 rfl rfl rfl rfl rfl (c_Model_takeWord_f0 (d := d) (x1 := 9) (by omega) (by omega) (((my_up_role fh52 is_151 is_170 rfl).trans w22).trans (by omega)) Tok_h52 (fun h54 frh54 w55 w56 xp57 Tok_h54t58 => ?_) (fun h59 frh59 w60 w61 w62 xp63 Tok_h59t64 => ?_))
      ·
        have gh54 : my_fr [(10, 7), (10, 8), (67, -1), (68, -1), (69, -1)] h h54 := my_fr.tr gh52 (frh54.mo rfl)
        have Mq_h54 : Mq h54 wv := Mq_ag (my_ag.fr frh54 rfl) Mq_h52
        have P6_h54 : h54 167 6 = h 167 6 := P6_ag (my_ag.fr frh54 rfl) P6_h52
        show wp l rho (d + 3) 189 106 [(2, 151), (0, x1), (9, 0)] [] h54 Q
        refine w_aload_n gz_189_106 rfl ?_
        refine w_getX (v := 169) gz_189_107 is_151 rd_10 rfl (by decide) rfl ?_
        refine w_iload_n gz_189_110 rfl ?_
        refine w_aload_n gz_189_111 rfl ?_
        refine w_aload_n gz_189_112 rfl ?_
        refine v_getI (j := 27) gz_189_113 rfl is_151 rd_10 rfl (fun v66 ev66 pv66 qv66 => ?_)
        have zv66 := ev66.trans ((my_fr.at frh54 is_151 rfl).trans ((my_up_role fh52 is_151 is_170 rfl).trans ((my_fr.at frh16 is_151 rfl).trans ((my_up_role fh2 is_151 is_168 rfl).trans ek151_27.symm))))
        refine w_iconst gz_189_116 (by decide) ?_
        refine w_isub gz_189_117 ⟨by omega, by omega⟩ ?_
        refine w_inv (k := 0) (as := [(0, (v66 - 1))]) (r := [(0, x1), (2, 169)]) (x := 151) (ls0 := [(2, 151), (0, (v66 - 1))]) gz_189_118 gm_187 rfl is_151 rd_10 rfl rfl rfl rfl rfl (c_Model_takeNumber2_f1 (d := (d + 1)) (x1 := (v66 - 1)) (by omega) (by omega) ((h54 151 8)) ((rfl : h54 151 8 = h54 151 8)) (by omega) (by omega) Tok_h54t58 (fun w67 w68 xp69 Tok_h54t70 => ?_))
        show wp l rho (d + 3) 189 121 [(2, 151), (0, x1), (9, 0)] [(0, 0), (0, x1), (2, 169)] h54 Q
        have hi71 : 0 ≤ 0 := by omega
        have hi72 : 0 ≤ 7 := by omega
        refine w_iast gz_189_121 is_169 rd_68 (by omega) (by omega) (by omega) (by omega) (fun h73 fh73 => ?_)
        have gh73 : my_fr [(10, 7), (10, 8), (67, -1), (68, -1), (69, -1)] h h73 := my_fr.up gh54 is_169 fh73 rfl
        have Mq_h73 : Mq h73 wv := Mq_u (a := 169) hwv (by decide) (by omega) fh73 Mq_h54
        have P6_h73 : h73 167 6 = h 167 6 := P6_ag (my_ag.up fh73 is_169 rfl) P6_h54
        have Tok_h73 : Tok h73 := Tok_ag (my_ag.up fh73 is_169 rfl) Tok_h54t70
        have ce74 : h73 151 7 = h54 151 7 := ((my_up_role fh73 is_151 is_169 rfl).trans (rfl : h54 151 7 = h54 151 7))
        have ce75 : h73 151 27 = v66 := ((my_up_role fh73 is_151 is_169 rfl).trans ev66.symm)
        have a168 : ∀ j : Int, h73 168 j = h2 168 j := fun j => ((my_up_role fh73 is_168 is_169 rfl).trans ((my_fr.at frh54 is_168 rfl).trans ((my_up_role fh52 is_168 is_170 rfl).trans ((my_fr.at frh16 is_168 rfl).trans (rfl : h2 168 j = h2 168 j)))))
        have a170 : ∀ j : Int, h73 170 j = h52 170 j := fun j => ((my_up_role fh73 is_170 is_169 rfl).trans ((my_fr.at frh54 is_170 rfl).trans (rfl : h52 170 j = h52 170 j)))
        have a157 : ∀ j : Int, h73 157 j = h 157 j := fun j => ((my_up_role fh73 is_157 is_169 rfl).trans ((my_fr.at frh54 is_157 rfl).trans ((my_up_role fh52 is_157 is_170 rfl).trans ((my_fr.at frh16 is_157 rfl).trans ((my_up_role fh2 is_157 is_168 rfl).trans (rfl : h 157 j = h 157 j))))))
        have c76 := ((my_up_role fh73 is_151 is_169 rfl).trans (rfl : h54 151 8 = h54 151 8))
        exact w_vret gz_189_122 gm_189 (k0 h73 (gh73) (by omega) (by omega) (by first | omega | (exfalso; subst_vars; omega) | (refine ⟨fun q => ?_, fun q => ?_⟩ <;> first | (rw [a168, k168] at q; omega) | (have kz := k170.trans (show _ = vz by omega); rw [a170, kz, a157]; omega))) Tok_h73 Mq_h73)
      ·
        have gh59 : my_fr [(10, 7), (10, 8), (67, -1), (68, -1), (69, -1)] h h59 := my_fr.tr gh52 (frh59.mo rfl)
        have Mq_h59 : Mq h59 wv := Mq_ag (my_ag.fr frh59 rfl) Mq_h52
        have P6_h59 : h59 167 6 = h 167 6 := P6_ag (my_ag.fr frh59 rfl) P6_h52
        show wp l rho (d + 3) 189 106 [(2, 151), (0, x1), (9, 0)] [] h59 Q
        refine w_aload_n gz_189_106 rfl ?_
        refine w_getX (v := 169) gz_189_107 is_151 rd_10 rfl (by decide) rfl ?_
        refine w_iload_n gz_189_110 rfl ?_
        refine w_aload_n gz_189_111 rfl ?_
        refine w_aload_n gz_189_112 rfl ?_
        refine v_getI (j := 27) gz_189_113 rfl is_151 rd_10 rfl (fun v78 ev78 pv78 qv78 => ?_)
        have zv78 := ev78.trans ((my_fr.at frh59 is_151 rfl).trans ((my_up_role fh52 is_151 is_170 rfl).trans ((my_fr.at frh16 is_151 rfl).trans ((my_up_role fh2 is_151 is_168 rfl).trans ek151_27.symm))))
        refine w_iconst gz_189_116 (by decide) ?_
        refine w_isub gz_189_117 ⟨by omega, by omega⟩ ?_
        have ce79 : h59 151 7 = (h59 151 7) := (rfl : h59 151 7 = h59 151 7)
        refine w_inv (k := 0) (as := [(0, (v78 - 1))]) (r := [(0, x1), (2, 169)]) (x := 151) (ls0 := [(2, 151), (0, (v78 - 1))]) gz_189_118 gm_187 rfl is_151 rd_10 rfl rfl rfl rfl rfl (c_Model_takeNumber2_f0 (d := (d + 1)) (x1 := (v78 - 1)) (by omega) (by omega) (w62.trans (by omega)) Tok_h59t64 (fun h80 frh80 w81 w82 xp83 Tok_h80t84 => ?_) (fun h85 v86 frh85 w87 w88 w89 w90 w91 xp92 xp93 xp94 xp95 xp96 Tok_h85t97 => ?_))
        ·
          have gh80 : my_fr [(10, 7), (10, 8), (67, -1), (68, -1), (69, -1)] h h80 := my_fr.tr gh59 (frh80.mo rfl)
          have Mq_h80 : Mq h80 wv := Mq_ag (my_ag.fr frh80 rfl) Mq_h59
          have P6_h80 : h80 167 6 = h 167 6 := P6_ag (my_ag.fr frh80 rfl) P6_h59
          show wp l rho (d + 3) 189 121 [(2, 151), (0, x1), (9, 0)] [(0, 0), (0, x1), (2, 169)] h80 Q
          have hi98 : 0 ≤ 0 := by omega
          have hi99 : 0 ≤ 7 := by omega
          refine w_iast gz_189_121 is_169 rd_68 (by omega) (by omega) (by omega) (by omega) (fun h100 fh100 => ?_)
          have gh100 : my_fr [(10, 7), (10, 8), (67, -1), (68, -1), (69, -1)] h h100 := my_fr.up gh80 is_169 fh100 rfl
          have Mq_h100 : Mq h100 wv := Mq_u (a := 169) hwv (by decide) (by omega) fh100 Mq_h80
          have P6_h100 : h100 167 6 = h 167 6 := P6_ag (my_ag.up fh100 is_169 rfl) P6_h80
          have Tok_h100 : Tok h100 := Tok_ag (my_ag.up fh100 is_169 rfl) Tok_h80t84
          have ce101 : h100 151 7 = h80 151 7 := ((my_up_role fh100 is_151 is_169 rfl).trans (rfl : h80 151 7 = h80 151 7))
          have ce102 : h100 151 27 = v78 := ((my_up_role fh100 is_151 is_169 rfl).trans ((my_fr.at frh80 is_151 rfl).trans ev78.symm))
          have a168 : ∀ j : Int, h100 168 j = h2 168 j := fun j => ((my_up_role fh100 is_168 is_169 rfl).trans ((my_fr.at frh80 is_168 rfl).trans ((my_fr.at frh59 is_168 rfl).trans ((my_up_role fh52 is_168 is_170 rfl).trans ((my_fr.at frh16 is_168 rfl).trans (rfl : h2 168 j = h2 168 j))))))
          have a170 : ∀ j : Int, h100 170 j = h52 170 j := fun j => ((my_up_role fh100 is_170 is_169 rfl).trans ((my_fr.at frh80 is_170 rfl).trans ((my_fr.at frh59 is_170 rfl).trans (rfl : h52 170 j = h52 170 j))))
          have a157 : ∀ j : Int, h100 157 j = h 157 j := fun j => ((my_up_role fh100 is_157 is_169 rfl).trans ((my_fr.at frh80 is_157 rfl).trans ((my_fr.at frh59 is_157 rfl).trans ((my_up_role fh52 is_157 is_170 rfl).trans ((my_fr.at frh16 is_157 rfl).trans ((my_up_role fh2 is_157 is_168 rfl).trans (rfl : h 157 j = h 157 j)))))))
          have c103 := ((my_up_role fh100 is_151 is_169 rfl).trans (rfl : h80 151 8 = h80 151 8))
          exact w_vret gz_189_122 gm_189 (k0 h100 (gh100) (by omega) (by omega) (by first | omega | (exfalso; subst_vars; omega) | (refine ⟨fun q => ?_, fun q => ?_⟩ <;> first | (rw [a168, k168] at q; omega) | (have kz := k170.trans (show _ = vz by omega); rw [a170, kz, a157]; omega))) Tok_h100 Mq_h100)
        ·
          have gh85 : my_fr [(10, 7), (10, 8), (67, -1), (68, -1), (69, -1)] h h85 := my_fr.tr gh59 (frh85.mo rfl)
          have Mq_h85 : Mq h85 wv := Mq_ag (my_ag.fr frh85 rfl) Mq_h59
          have P6_h85 : h85 167 6 = h 167 6 := P6_ag (my_ag.fr frh85 rfl) P6_h59
          show wp l rho (d + 3) 189 121 [(2, 151), (0, x1), (9, 0)] [(0, v86), (0, x1), (2, 169)] h85 Q
          have hi104 : 0 ≤ v86 := by omega
          have hi105 : v86 ≤ 7 := by omega
          refine w_iast gz_189_121 is_169 rd_68 (by omega) (by omega) (by omega) (by omega) (fun h106 fh106 => ?_)
          have gh106 : my_fr [(10, 7), (10, 8), (67, -1), (68, -1), (69, -1)] h h106 := my_fr.up gh85 is_169 fh106 rfl
          have Mq_h106 : Mq h106 wv := Mq_u (a := 169) hwv (by decide) (by omega) fh106 Mq_h85
          have P6_h106 : h106 167 6 = h 167 6 := P6_ag (my_ag.up fh106 is_169 rfl) P6_h85
          have Tok_h106 : Tok h106 := Tok_ag (my_ag.up fh106 is_169 rfl) Tok_h85t97
          have ce107 : h106 151 7 = (h85 151 7) := ((my_up_role fh106 is_151 is_169 rfl).trans (rfl : h85 151 7 = h85 151 7))
          have ce108 : h106 151 27 = v78 := ((my_up_role fh106 is_151 is_169 rfl).trans ((my_fr.at frh85 is_151 rfl).trans ev78.symm))
          have a168 : ∀ j : Int, h106 168 j = h2 168 j := fun j => ((my_up_role fh106 is_168 is_169 rfl).trans ((my_fr.at frh85 is_168 rfl).trans ((my_fr.at frh59 is_168 rfl).trans ((my_up_role fh52 is_168 is_170 rfl).trans ((my_fr.at frh16 is_168 rfl).trans (rfl : h2 168 j = h2 168 j))))))
          have a170 : ∀ j : Int, h106 170 j = h52 170 j := fun j => ((my_up_role fh106 is_170 is_169 rfl).trans ((my_fr.at frh85 is_170 rfl).trans ((my_fr.at frh59 is_170 rfl).trans (rfl : h52 170 j = h52 170 j))))
          have a157 : ∀ j : Int, h106 157 j = h 157 j := fun j => ((my_up_role fh106 is_157 is_169 rfl).trans ((my_fr.at frh85 is_157 rfl).trans ((my_fr.at frh59 is_157 rfl).trans ((my_up_role fh52 is_157 is_170 rfl).trans ((my_fr.at frh16 is_157 rfl).trans ((my_up_role fh2 is_157 is_168 rfl).trans (rfl : h 157 j = h 157 j)))))))
          have c109 := ((my_up_role fh106 is_151 is_169 rfl).trans (rfl : h85 151 7 = h85 151 7))
          have c110 := ((my_up_role fh106 is_151 is_169 rfl).trans w91)
          exact w_vret gz_189_122 gm_189 (k1 h106 (gh106) (by omega) (by omega) (by omega) (by first | omega | (exfalso; subst_vars; omega) | (refine ⟨fun q => ?_, fun q => ?_⟩ <;> first | (rw [a168, k168] at q; omega) | (have kz := k170.trans (show _ = vz by omega); rw [a170, kz, a157]; omega))) (by first | omega | (exfalso; subst_vars; omega) | (refine ⟨fun q => ?_, fun q => ?_⟩ <;> first | (rw [a168, k168] at q; omega) | (have kz := k170.trans (show _ = vz by omega); rw [a170, kz, a157]; omega))) (by first | omega | (exfalso; subst_vars; omega) | (refine ⟨fun q => ?_, fun q => ?_⟩ <;> first | (rw [a168, k168] at q; omega) | (have kz := k170.trans (show _ = vz by omega); rw [a170, kz, a157]; omega))) Tok_h106 Mq_h106)
  ·
    refine w_aload_n gz_189_27 rfl ?_
    refine w_getX (v := 155) gz_189_28 is_151 rd_10 rfl (by decide) rfl ?_
    refine w_aload_n gz_189_31 rfl ?_
    refine v_getI (j := 7) gz_189_32 rfl is_151 rd_10 rfl (fun v112 ev112 pv112 qv112 => ?_)
    have zv112 := ev112.trans ev6.symm
    refine w_lald gz_189_35 is_155 rd_54 (by omega) (by omega) (fun v113 ev113 pv113 => ?_)
    refine w_ldc2 gz_189_36 rfl ?_
    refine w_lcmpE gz_189_39 (fun v114 pv114 qv114 xv114 => ?_)
    refine w_ifgt (t := 89) gz_189_40 rfl (fun u115 => ?_) (fun u115 => ?_)
    ·
      refine w_aload_n gz_189_89 rfl ?_
      refine w_getX (v := 170) gz_189_90 is_151 rd_10 rfl (by decide) rfl ?_
      refine w_iload_n gz_189_93 rfl ?_
      refine w_aload_n gz_189_94 rfl ?_
      refine w_iconst gz_189_95 (by decide) ?_
      have ce117 : h2 151 7 = v112 := ev112.symm
      refine w_inv (k := 0) (as := [(0, 2)]) (r := [(0, x1), (2, 170)]) (x := 151) (ls0 := [(2, 151), (0, 2)]) gz_189_96 gm_187 rfl is_151 rd_10 rfl rfl rfl rfl rfl (c_Model_takeNumber2_f0 (d := (d + 1)) (x1 := 2) (by omega) (by omega) (ev3.symm.trans (by omega)) Tok_h2 (fun h118 frh118 w119 w120 xp121 Tok_h118t122 => ?_) (fun h123 v124 frh123 w125 w126 w127 w128 w129 xp130 xp131 xp132 xp133 xp134 Tok_h123t135 => ?_))
      ·
        have gh118 : my_fr [(10, 7), (10, 8), (67, -1), (68, -1), (69, -1)] h h118 := my_fr.tr gh2 (frh118.mo rfl)
        have Mq_h118 : Mq h118 wv := Mq_ag (my_ag.fr frh118 rfl) Mq_h2
        have P6_h118 : h118 167 6 = h 167 6 := P6_ag (my_ag.fr frh118 rfl) P6_h2
        show wp l rho (d + 3) 189 99 [(2, 151), (0, x1), (9, 0)] [(0, 0), (0, x1), (2, 170)] h118 Q
        have hi136 : 0 ≤ 0 := by omega
        have hi137 : 0 ≤ 2 := by omega
        refine w_iast gz_189_99 is_170 rd_69 (by omega) (by omega) (by omega) (by omega) (fun h138 fh138 => ?_)
        have gh138 : my_fr [(10, 7), (10, 8), (67, -1), (68, -1), (69, -1)] h h138 := my_fr.up gh118 is_170 fh138 rfl
        have Mq_h138 : Mq h138 wv := Mq_u (a := 170) hwv (by decide) (by omega) fh138 Mq_h118
        have P6_h138 : h138 167 6 = h 167 6 := P6_ag (my_ag.up fh138 is_170 rfl) P6_h118
        have Tok_h138 : Tok h138 := Tok_ag (my_ag.up fh138 is_170 rfl) Tok_h118t122
        have k170 := my_up_self fh138
        refine w_aload_n gz_189_100 rfl ?_
        refine w_bipush gz_189_101 (by decide) ?_
        have ce139 : h138 151 7 = h118 151 7 := ((my_up_role fh138 is_151 is_170 rfl).trans (rfl : h118 151 7 = h118 151 7))
        refine w_inv (k := 0) (as := [(0, 9)]) (r := []) (x := 151) (ls0 := [(2, 151), (0, 9)]) gz_189_103 gm_175 rfl is_151 rd_10 rfl rfl rfl rfl rfl (c_Model_takeWord_f1 (d := d)  ((h118 151 8)) (((my_up_role fh138 is_151 is_170 rfl).trans (rfl : h118 151 8 = h118 151 8))) (by omega) (by omega) Tok_h138 (fun h140 frh140 w141 w142 xp143 Tok_h140t144 => ?_))
        have gh140 : my_fr [(10, 7), (10, 8), (67, -1), (68, -1), (69, -1)] h h140 := my_fr.tr gh138 (frh140.mo rfl)
        have Mq_h140 : Mq h140 wv := Mq_ag (my_ag.fr frh140 rfl) Mq_h138
        have P6_h140 : h140 167 6 = h 167 6 := P6_ag (my_ag.fr frh140 rfl) P6_h138
        show wp l rho (d + 3) 189 106 [(2, 151), (0, x1), (9, 0)] [] h140 Q
        refine w_aload_n gz_189_106 rfl ?_
        refine w_getX (v := 169) gz_189_107 is_151 rd_10 rfl (by decide) rfl ?_
        refine w_iload_n gz_189_110 rfl ?_
        refine w_aload_n gz_189_111 rfl ?_
        refine w_aload_n gz_189_112 rfl ?_
        refine v_getI (j := 27) gz_189_113 rfl is_151 rd_10 rfl (fun v146 ev146 pv146 qv146 => ?_)
        have zv146 := ev146.trans ((my_fr.at frh140 is_151 rfl).trans ((my_up_role fh138 is_151 is_170 rfl).trans ((my_fr.at frh118 is_151 rfl).trans ((my_up_role fh2 is_151 is_168 rfl).trans ek151_27.symm))))
        refine w_iconst gz_189_116 (by decide) ?_
        refine w_isub gz_189_117 ⟨by omega, by omega⟩ ?_
        refine w_inv (k := 0) (as := [(0, (v146 - 1))]) (r := [(0, x1), (2, 169)]) (x := 151) (ls0 := [(2, 151), (0, (v146 - 1))]) gz_189_118 gm_187 rfl is_151 rd_10 rfl rfl rfl rfl rfl (c_Model_takeNumber2_f1 (d := (d + 1)) (x1 := (v146 - 1)) (by omega) (by omega) ((h118 151 8)) (((my_fr.at frh140 is_151 rfl).trans ((my_up_role fh138 is_151 is_170 rfl).trans (rfl : h118 151 8 = h118 151 8)))) (by omega) (by omega) Tok_h140t144 (fun w147 w148 xp149 Tok_h140t150 => ?_))
        show wp l rho (d + 3) 189 121 [(2, 151), (0, x1), (9, 0)] [(0, 0), (0, x1), (2, 169)] h140 Q
        have hi151 : 0 ≤ 0 := by omega
        have hi152 : 0 ≤ 7 := by omega
        refine w_iast gz_189_121 is_169 rd_68 (by omega) (by omega) (by omega) (by omega) (fun h153 fh153 => ?_)
        have gh153 : my_fr [(10, 7), (10, 8), (67, -1), (68, -1), (69, -1)] h h153 := my_fr.up gh140 is_169 fh153 rfl
        have Mq_h153 : Mq h153 wv := Mq_u (a := 169) hwv (by decide) (by omega) fh153 Mq_h140
        have P6_h153 : h153 167 6 = h 167 6 := P6_ag (my_ag.up fh153 is_169 rfl) P6_h140
        have Tok_h153 : Tok h153 := Tok_ag (my_ag.up fh153 is_169 rfl) Tok_h140t150
        have ce154 : h153 151 7 = h140 151 7 := ((my_up_role fh153 is_151 is_169 rfl).trans (rfl : h140 151 7 = h140 151 7))
        have ce155 : h153 151 27 = v146 := ((my_up_role fh153 is_151 is_169 rfl).trans ev146.symm)
        have a168 : ∀ j : Int, h153 168 j = h2 168 j := fun j => ((my_up_role fh153 is_168 is_169 rfl).trans ((my_fr.at frh140 is_168 rfl).trans ((my_up_role fh138 is_168 is_170 rfl).trans ((my_fr.at frh118 is_168 rfl).trans (rfl : h2 168 j = h2 168 j)))))
        have a170 : ∀ j : Int, h153 170 j = h138 170 j := fun j => ((my_up_role fh153 is_170 is_169 rfl).trans ((my_fr.at frh140 is_170 rfl).trans (rfl : h138 170 j = h138 170 j)))
        have a157 : ∀ j : Int, h153 157 j = h 157 j := fun j => ((my_up_role fh153 is_157 is_169 rfl).trans ((my_fr.at frh140 is_157 rfl).trans ((my_up_role fh138 is_157 is_170 rfl).trans ((my_fr.at frh118 is_157 rfl).trans ((my_up_role fh2 is_157 is_168 rfl).trans (rfl : h 157 j = h 157 j))))))
        have c156 := ((my_up_role fh153 is_151 is_169 rfl).trans ((my_fr.at frh140 is_151 rfl).trans ((my_up_role fh138 is_151 is_170 rfl).trans (rfl : h118 151 8 = h118 151 8))))
        exact w_vret gz_189_122 gm_189 (k0 h153 (gh153) (by omega) (by omega) (by first | omega | (exfalso; subst_vars; omega) | (refine ⟨fun q => ?_, fun q => ?_⟩ <;> first | (rw [a168, k168] at q; omega) | (have kz := k170.trans (show _ = vz by omega); rw [a170, kz, a157]; omega))) Tok_h153 Mq_h153)
      ·
        have gh123 : my_fr [(10, 7), (10, 8), (67, -1), (68, -1), (69, -1)] h h123 := my_fr.tr gh2 (frh123.mo rfl)
        have Mq_h123 : Mq h123 wv := Mq_ag (my_ag.fr frh123 rfl) Mq_h2
        have P6_h123 : h123 167 6 = h 167 6 := P6_ag (my_ag.fr frh123 rfl) P6_h2
        show wp l rho (d + 3) 189 99 [(2, 151), (0, x1), (9, 0)] [(0, v124), (0, x1), (2, 170)] h123 Q
        have hi157 : 0 ≤ v124 := by omega
        have hi158 : v124 ≤ 2 := by omega
        refine w_iast gz_189_99 is_170 rd_69 (by omega) (by omega) (by omega) (by omega) (fun h159 fh159 => ?_)
        have gh159 : my_fr [(10, 7), (10, 8), (67, -1), (68, -1), (69, -1)] h h159 := my_fr.up gh123 is_170 fh159 rfl
        have Mq_h159 : Mq h159 wv := Mq_u (a := 170) hwv (by decide) (by omega) fh159 Mq_h123
        have P6_h159 : h159 167 6 = h 167 6 := P6_ag (my_ag.up fh159 is_170 rfl) P6_h123
        have Tok_h159 : Tok h159 := Tok_ag (my_ag.up fh159 is_170 rfl) Tok_h123t135
        have k170 := my_up_self fh159
        refine w_aload_n gz_189_100 rfl ?_
        refine w_bipush gz_189_101 (by decide) ?_
        have ce160 : h159 151 7 = (h123 151 7) := ((my_up_role fh159 is_151 is_170 rfl).trans (rfl : h123 151 7 = h123 151 7))
        refine w_inv (k := 0) (as := [(0, 9)]) (r := []) (x := 151) (ls0 := [(2, 151), (0, 9)]) gz_189_103 gm_175 rfl is_151 rd_10 rfl rfl rfl rfl rfl (c_Model_takeWord_f0 (d := d) (x1 := 9) (by omega) (by omega) (((my_up_role fh159 is_151 is_170 rfl).trans w129).trans (by omega)) Tok_h159 (fun h161 frh161 w162 w163 xp164 Tok_h161t165 => ?_) (fun h166 frh166 w167 w168 w169 xp170 Tok_h166t171 => ?_))
        ·
          have gh161 : my_fr [(10, 7), (10, 8), (67, -1), (68, -1), (69, -1)] h h161 := my_fr.tr gh159 (frh161.mo rfl)
          have Mq_h161 : Mq h161 wv := Mq_ag (my_ag.fr frh161 rfl) Mq_h159
          have P6_h161 : h161 167 6 = h 167 6 := P6_ag (my_ag.fr frh161 rfl) P6_h159
          show wp l rho (d + 3) 189 106 [(2, 151), (0, x1), (9, 0)] [] h161 Q
          refine w_aload_n gz_189_106 rfl ?_
          refine w_getX (v := 169) gz_189_107 is_151 rd_10 rfl (by decide) rfl ?_
          refine w_iload_n gz_189_110 rfl ?_
          refine w_aload_n gz_189_111 rfl ?_
          refine w_aload_n gz_189_112 rfl ?_
          refine v_getI (j := 27) gz_189_113 rfl is_151 rd_10 rfl (fun v173 ev173 pv173 qv173 => ?_)
          have zv173 := ev173.trans ((my_fr.at frh161 is_151 rfl).trans ((my_up_role fh159 is_151 is_170 rfl).trans ((my_fr.at frh123 is_151 rfl).trans ((my_up_role fh2 is_151 is_168 rfl).trans ek151_27.symm))))
          refine w_iconst gz_189_116 (by decide) ?_
          refine w_isub gz_189_117 ⟨by omega, by omega⟩ ?_
          refine w_inv (k := 0) (as := [(0, (v173 - 1))]) (r := [(0, x1), (2, 169)]) (x := 151) (ls0 := [(2, 151), (0, (v173 - 1))]) gz_189_118 gm_187 rfl is_151 rd_10 rfl rfl rfl rfl rfl (c_Model_takeNumber2_f1 (d := (d + 1)) (x1 := (v173 - 1)) (by omega) (by omega) ((h161 151 8)) ((rfl : h161 151 8 = h161 151 8)) (by omega) (by omega) Tok_h161t165 (fun w174 w175 xp176 Tok_h161t177 => ?_))
          show wp l rho (d + 3) 189 121 [(2, 151), (0, x1), (9, 0)] [(0, 0), (0, x1), (2, 169)] h161 Q
          have hi178 : 0 ≤ 0 := by omega
          have hi179 : 0 ≤ 7 := by omega
          refine w_iast gz_189_121 is_169 rd_68 (by omega) (by omega) (by omega) (by omega) (fun h180 fh180 => ?_)
          have gh180 : my_fr [(10, 7), (10, 8), (67, -1), (68, -1), (69, -1)] h h180 := my_fr.up gh161 is_169 fh180 rfl
          have Mq_h180 : Mq h180 wv := Mq_u (a := 169) hwv (by decide) (by omega) fh180 Mq_h161
          have P6_h180 : h180 167 6 = h 167 6 := P6_ag (my_ag.up fh180 is_169 rfl) P6_h161
          have Tok_h180 : Tok h180 := Tok_ag (my_ag.up fh180 is_169 rfl) Tok_h161t177
          have ce181 : h180 151 7 = h161 151 7 := ((my_up_role fh180 is_151 is_169 rfl).trans (rfl : h161 151 7 = h161 151 7))
          have ce182 : h180 151 27 = v173 := ((my_up_role fh180 is_151 is_169 rfl).trans ev173.symm)
          have a168 : ∀ j : Int, h180 168 j = h2 168 j := fun j => ((my_up_role fh180 is_168 is_169 rfl).trans ((my_fr.at frh161 is_168 rfl).trans ((my_up_role fh159 is_168 is_170 rfl).trans ((my_fr.at frh123 is_168 rfl).trans (rfl : h2 168 j = h2 168 j)))))
          have a170 : ∀ j : Int, h180 170 j = h159 170 j := fun j => ((my_up_role fh180 is_170 is_169 rfl).trans ((my_fr.at frh161 is_170 rfl).trans (rfl : h159 170 j = h159 170 j)))
          have a157 : ∀ j : Int, h180 157 j = h 157 j := fun j => ((my_up_role fh180 is_157 is_169 rfl).trans ((my_fr.at frh161 is_157 rfl).trans ((my_up_role fh159 is_157 is_170 rfl).trans ((my_fr.at frh123 is_157 rfl).trans ((my_up_role fh2 is_157 is_168 rfl).trans (rfl : h 157 j = h 157 j))))))
          have c183 := ((my_up_role fh180 is_151 is_169 rfl).trans (rfl : h161 151 8 = h161 151 8))
          exact w_vret gz_189_122 gm_189 (k0 h180 (gh180) (by omega) (by omega) (by first | omega | (exfalso; subst_vars; omega) | (refine ⟨fun q => ?_, fun q => ?_⟩ <;> first | (rw [a168, k168] at q; omega) | (have kz := k170.trans (show _ = vz by omega); rw [a170, kz, a157]; omega))) Tok_h180 Mq_h180)
        ·
          have gh166 : my_fr [(10, 7), (10, 8), (67, -1), (68, -1), (69, -1)] h h166 := my_fr.tr gh159 (frh166.mo rfl)
          have Mq_h166 : Mq h166 wv := Mq_ag (my_ag.fr frh166 rfl) Mq_h159
          have P6_h166 : h166 167 6 = h 167 6 := P6_ag (my_ag.fr frh166 rfl) P6_h159
          show wp l rho (d + 3) 189 106 [(2, 151), (0, x1), (9, 0)] [] h166 Q
          refine w_aload_n gz_189_106 rfl ?_
          refine w_getX (v := 169) gz_189_107 is_151 rd_10 rfl (by decide) rfl ?_
          refine w_iload_n gz_189_110 rfl ?_
          refine w_aload_n gz_189_111 rfl ?_
          refine w_aload_n gz_189_112 rfl ?_
          refine v_getI (j := 27) gz_189_113 rfl is_151 rd_10 rfl (fun v185 ev185 pv185 qv185 => ?_)
          have zv185 := ev185.trans ((my_fr.at frh166 is_151 rfl).trans ((my_up_role fh159 is_151 is_170 rfl).trans ((my_fr.at frh123 is_151 rfl).trans ((my_up_role fh2 is_151 is_168 rfl).trans ek151_27.symm))))
          refine w_iconst gz_189_116 (by decide) ?_
          refine w_isub gz_189_117 ⟨by omega, by omega⟩ ?_
          have ce186 : h166 151 7 = (h166 151 7) := (rfl : h166 151 7 = h166 151 7)
          refine w_inv (k := 0) (as := [(0, (v185 - 1))]) (r := [(0, x1), (2, 169)]) (x := 151) (ls0 := [(2, 151), (0, (v185 - 1))]) gz_189_118 gm_187 rfl is_151 rd_10 rfl rfl rfl rfl rfl (c_Model_takeNumber2_f0 (d := (d + 1)) (x1 := (v185 - 1)) (by omega) (by omega) (w169.trans (by omega)) Tok_h166t171 (fun h187 frh187 w188 w189 xp190 Tok_h187t191 => ?_) (fun h192 v193 frh192 w194 w195 w196 w197 w198 xp199 xp200 xp201 xp202 xp203 Tok_h192t204 => ?_))
          ·
            have gh187 : my_fr [(10, 7), (10, 8), (67, -1), (68, -1), (69, -1)] h h187 := my_fr.tr gh166 (frh187.mo rfl)
            have Mq_h187 : Mq h187 wv := Mq_ag (my_ag.fr frh187 rfl) Mq_h166
            have P6_h187 : h187 167 6 = h 167 6 := P6_ag (my_ag.fr frh187 rfl) P6_h166
            show wp l rho (d + 3) 189 121 [(2, 151), (0, x1), (9, 0)] [(0, 0), (0, x1), (2, 169)] h187 Q
            have hi205 : 0 ≤ 0 := by omega
            have hi206 : 0 ≤ 7 := by omega
            refine w_iast gz_189_121 is_169 rd_68 (by omega) (by omega) (by omega) (by omega) (fun h207 fh207 => ?_)
            have gh207 : my_fr [(10, 7), (10, 8), (67, -1), (68, -1), (69, -1)] h h207 := my_fr.up gh187 is_169 fh207 rfl
            have Mq_h207 : Mq h207 wv := Mq_u (a := 169) hwv (by decide) (by omega) fh207 Mq_h187
            have P6_h207 : h207 167 6 = h 167 6 := P6_ag (my_ag.up fh207 is_169 rfl) P6_h187
            have Tok_h207 : Tok h207 := Tok_ag (my_ag.up fh207 is_169 rfl) Tok_h187t191
            have ce208 : h207 151 7 = h187 151 7 := ((my_up_role fh207 is_151 is_169 rfl).trans (rfl : h187 151 7 = h187 151 7))
            have ce209 : h207 151 27 = v185 := ((my_up_role fh207 is_151 is_169 rfl).trans ((my_fr.at frh187 is_151 rfl).trans ev185.symm))
            have a168 : ∀ j : Int, h207 168 j = h2 168 j := fun j => ((my_up_role fh207 is_168 is_169 rfl).trans ((my_fr.at frh187 is_168 rfl).trans ((my_fr.at frh166 is_168 rfl).trans ((my_up_role fh159 is_168 is_170 rfl).trans ((my_fr.at frh123 is_168 rfl).trans (rfl : h2 168 j = h2 168 j))))))
            have a170 : ∀ j : Int, h207 170 j = h159 170 j := fun j => ((my_up_role fh207 is_170 is_169 rfl).trans ((my_fr.at frh187 is_170 rfl).trans ((my_fr.at frh166 is_170 rfl).trans (rfl : h159 170 j = h159 170 j))))
            have a157 : ∀ j : Int, h207 157 j = h 157 j := fun j => ((my_up_role fh207 is_157 is_169 rfl).trans ((my_fr.at frh187 is_157 rfl).trans ((my_fr.at frh166 is_157 rfl).trans ((my_up_role fh159 is_157 is_170 rfl).trans ((my_fr.at frh123 is_157 rfl).trans ((my_up_role fh2 is_157 is_168 rfl).trans (rfl : h 157 j = h 157 j)))))))
            have c210 := ((my_up_role fh207 is_151 is_169 rfl).trans (rfl : h187 151 8 = h187 151 8))
            exact w_vret gz_189_122 gm_189 (k0 h207 (gh207) (by omega) (by omega) (by first | omega | (exfalso; subst_vars; omega) | (refine ⟨fun q => ?_, fun q => ?_⟩ <;> first | (rw [a168, k168] at q; omega) | (have kz := k170.trans (show _ = vz by omega); rw [a170, kz, a157]; omega))) Tok_h207 Mq_h207)
          ·
            have gh192 : my_fr [(10, 7), (10, 8), (67, -1), (68, -1), (69, -1)] h h192 := my_fr.tr gh166 (frh192.mo rfl)
            have Mq_h192 : Mq h192 wv := Mq_ag (my_ag.fr frh192 rfl) Mq_h166
            have P6_h192 : h192 167 6 = h 167 6 := P6_ag (my_ag.fr frh192 rfl) P6_h166
            show wp l rho (d + 3) 189 121 [(2, 151), (0, x1), (9, 0)] [(0, v193), (0, x1), (2, 169)] h192 Q
            have hi211 : 0 ≤ v193 := by omega
            have hi212 : v193 ≤ 7 := by omega
            refine w_iast gz_189_121 is_169 rd_68 (by omega) (by omega) (by omega) (by omega) (fun h213 fh213 => ?_)
            have gh213 : my_fr [(10, 7), (10, 8), (67, -1), (68, -1), (69, -1)] h h213 := my_fr.up gh192 is_169 fh213 rfl
            have Mq_h213 : Mq h213 wv := Mq_u (a := 169) hwv (by decide) (by omega) fh213 Mq_h192
            have P6_h213 : h213 167 6 = h 167 6 := P6_ag (my_ag.up fh213 is_169 rfl) P6_h192
            have Tok_h213 : Tok h213 := Tok_ag (my_ag.up fh213 is_169 rfl) Tok_h192t204
            have ce214 : h213 151 7 = (h192 151 7) := ((my_up_role fh213 is_151 is_169 rfl).trans (rfl : h192 151 7 = h192 151 7))
            have ce215 : h213 151 27 = v185 := ((my_up_role fh213 is_151 is_169 rfl).trans ((my_fr.at frh192 is_151 rfl).trans ev185.symm))
            have a168 : ∀ j : Int, h213 168 j = h2 168 j := fun j => ((my_up_role fh213 is_168 is_169 rfl).trans ((my_fr.at frh192 is_168 rfl).trans ((my_fr.at frh166 is_168 rfl).trans ((my_up_role fh159 is_168 is_170 rfl).trans ((my_fr.at frh123 is_168 rfl).trans (rfl : h2 168 j = h2 168 j))))))
            have a170 : ∀ j : Int, h213 170 j = h159 170 j := fun j => ((my_up_role fh213 is_170 is_169 rfl).trans ((my_fr.at frh192 is_170 rfl).trans ((my_fr.at frh166 is_170 rfl).trans (rfl : h159 170 j = h159 170 j))))
            have a157 : ∀ j : Int, h213 157 j = h 157 j := fun j => ((my_up_role fh213 is_157 is_169 rfl).trans ((my_fr.at frh192 is_157 rfl).trans ((my_fr.at frh166 is_157 rfl).trans ((my_up_role fh159 is_157 is_170 rfl).trans ((my_fr.at frh123 is_157 rfl).trans ((my_up_role fh2 is_157 is_168 rfl).trans (rfl : h 157 j = h 157 j)))))))
            have c216 := ((my_up_role fh213 is_151 is_169 rfl).trans (rfl : h192 151 7 = h192 151 7))
            have c217 := ((my_up_role fh213 is_151 is_169 rfl).trans w198)
            exact w_vret gz_189_122 gm_189 (k1 h213 (gh213) (by omega) (by omega) (by omega) (by first | omega | (exfalso; subst_vars; omega) | (refine ⟨fun q => ?_, fun q => ?_⟩ <;> first | (rw [a168, k168] at q; omega) | (have kz := k170.trans (show _ = vz by omega); rw [a170, kz, a157]; omega))) (by first | omega | (exfalso; subst_vars; omega) | (refine ⟨fun q => ?_, fun q => ?_⟩ <;> first | (rw [a168, k168] at q; omega) | (have kz := k170.trans (show _ = vz by omega); rw [a170, kz, a157]; omega))) (by first | omega | (exfalso; subst_vars; omega) | (refine ⟨fun q => ?_, fun q => ?_⟩ <;> first | (rw [a168, k168] at q; omega) | (have kz := k170.trans (show _ = vz by omega); rw [a170, kz, a157]; omega))) Tok_h213 Mq_h213)
    ·
      refine w_aload_n gz_189_43 rfl ?_
      refine w_getX (v := 157) gz_189_44 is_151 rd_10 rfl (by decide) rfl ?_
      refine w_aload_n gz_189_47 rfl ?_
      refine w_getX (v := 155) gz_189_48 is_151 rd_10 rfl (by decide) rfl ?_
      refine w_aload_n gz_189_51 rfl ?_
      refine v_getI (j := 7) gz_189_52 rfl is_151 rd_10 rfl (fun v220 ev220 pv220 qv220 => ?_)
      have zv220 := ev220.trans ev112.symm
      refine w_lald gz_189_55 is_155 rd_54 (by omega) (by omega) (fun v221 ev221 pv221 => ?_)
      have tb : 0 ≤ v221 ∧ v221 ≤ 999 := by
        have q := Tok_at Tok_h2
        subst_vars
        omega
      refine w_l2iE gz_189_56 (fun v222 pv222 qv222 xv222 => ?_)
      have z155 : v222 = h2 155 (h2 151 7) := by subst_vars; omega
      have hi223 : 0 ≤ v222 := by subst_vars; omega
      have hi224 : v222 ≤ 2 := by subst_vars; omega
      refine w_iald gz_189_57 is_157 rd_56 (by omega) (by omega) (fun v225 ev225 pv225 qv225 => ?_)
      refine w_istore_n (ls' := [(2, 151), (0, x1), (0, v225)]) gz_189_58 gm_189 rfl rfl rfl ?_
      refine w_iload_n gz_189_59 rfl ?_
      refine w_ifeq (t := 76) gz_189_60 rfl (fun u226 => ?_) (fun u226 => ?_)
      ·
        refine w_aload_n gz_189_76 rfl ?_
        refine w_iload_n gz_189_77 rfl ?_
        refine w_ifne (t := 85) gz_189_78 rfl (fun u227 => by exfalso; omega) (fun u227 => ?_)
        refine w_iconst gz_189_81 (by decide) ?_
        refine w_goto (t := 86) gz_189_82 rfl ?_
        have ce228 : h2 151 7 = v220 := ev220.symm
        refine w_inv (k := 0) (as := [(0, 2)]) (r := []) (x := 151) (ls0 := [(2, 151), (0, 2)]) gz_189_86 gm_178 rfl is_151 rd_10 rfl rfl rfl rfl rfl ?_
        refine w_aload_n gz_178_0 rfl ?_
        refine v_getI (j := 8) gz_178_1 rfl is_151 rd_10 rfl (fun v229 ev229 pv229 qv229 => ?_)
        have zv229 := ev229.trans ev3.symm
        refine w_ifne (t := 25) gz_178_4 rfl (fun u230 => by exfalso; omega) (fun u230 => ?_)
        refine w_aload_n gz_178_7 rfl ?_
        refine w_iload_n gz_178_8 rfl ?_
        refine w_bipush gz_178_9 (by decide) ?_
        refine w_aload_n gz_178_11 rfl ?_
        refine w_getX (v := 154) gz_178_12 is_151 rd_10 rfl (by decide) rfl ?_
        refine w_aload_n gz_178_15 rfl ?_
        refine v_getI (j := 7) gz_178_16 rfl is_151 rd_10 rfl (fun v232 ev232 pv232 qv232 => ?_)
        have zv232 := ev232.trans ev220.symm
        refine w_iald gz_178_19 is_154 rd_53 (by omega) (by omega) (fun v233 ev233 pv233 qv233 => ?_)
        refine w_imul gz_178_20 ⟨by omega, by omega⟩ ?_
        refine w_iadd gz_178_21 ⟨by omega, by omega⟩ ?_
        refine v_putI (j := 8) gz_178_22 rfl is_151 rd_10 rfl (by omega) (by omega) rfl (fun h234 fh234 => ?_)
        have gh234 : my_fr [(10, 7), (10, 8), (67, -1), (68, -1), (69, -1)] h h234 := my_fr.up gh2 is_151 fh234 rfl
        have Tok_h234 : Tok h234 := Tok_ag (my_ag.up fh234 is_151 rfl) Tok_h2
        have Mq_h234 : Mq h234 wv := Mq_ag (my_ag.up fh234 is_151 rfl) Mq_h2
        have P6_h234 : h234 167 6 = h 167 6 := P6_ag (my_ag.up fh234 is_151 rfl) P6_h2
        refine w_vret gz_178_25 gm_178 ?_
        show wp l rho (d + 3) 189 89 [(2, 151), (0, x1), (0, v225)] [] h234 Q
        refine w_aload_n gz_189_89 rfl ?_
        refine w_getX (v := 170) gz_189_90 is_151 rd_10 rfl (by decide) rfl ?_
        refine w_iload_n gz_189_93 rfl ?_
        refine w_aload_n gz_189_94 rfl ?_
        refine w_iconst gz_189_95 (by decide) ?_
        have ce236 : h234 151 7 = v232 := ((my_up_fld fh234 (by decide)).trans ev232.symm)
        refine w_inv (k := 0) (as := [(0, 2)]) (r := [(0, x1), (2, 170)]) (x := 151) (ls0 := [(2, 151), (0, 2)]) gz_189_96 gm_187 rfl is_151 rd_10 rfl rfl rfl rfl rfl (c_Model_takeNumber2_f1 (d := (d + 1)) (x1 := 2) (by omega) (by omega) ((2 + (16 * v233))) ((my_up_self fh234)) (by omega) (by omega) Tok_h234 (fun w237 w238 xp239 Tok_h234t240 => ?_))
        show wp l rho (d + 3) 189 99 [(2, 151), (0, x1), (0, v225)] [(0, 0), (0, x1), (2, 170)] h234 Q
        have hi241 : 0 ≤ 0 := by omega
        have hi242 : 0 ≤ 2 := by omega
        refine w_iast gz_189_99 is_170 rd_69 (by omega) (by omega) (by omega) (by omega) (fun h243 fh243 => ?_)
        have gh243 : my_fr [(10, 7), (10, 8), (67, -1), (68, -1), (69, -1)] h h243 := my_fr.up gh234 is_170 fh243 rfl
        have Tok_h243 : Tok h243 := Tok_ag (my_ag.up fh243 is_170 rfl) Tok_h234t240
        have Mq_h243 : Mq h243 wv := Mq_u (a := 170) hwv (by decide) (by omega) fh243 Mq_h234
        have P6_h243 : h243 167 6 = h 167 6 := P6_ag (my_ag.up fh243 is_170 rfl) P6_h234
        have k170 := my_up_self fh243
        refine w_aload_n gz_189_100 rfl ?_
        refine w_bipush gz_189_101 (by decide) ?_
        have ce244 : h243 151 7 = v232 := ((my_up_role fh243 is_151 is_170 rfl).trans ((my_up_fld fh234 (by decide)).trans ev232.symm))
        refine w_inv (k := 0) (as := [(0, 9)]) (r := []) (x := 151) (ls0 := [(2, 151), (0, 9)]) gz_189_103 gm_175 rfl is_151 rd_10 rfl rfl rfl rfl rfl (c_Model_takeWord_f1 (d := d)  ((2 + (16 * v233))) (((my_up_role fh243 is_151 is_170 rfl).trans (my_up_self fh234))) (by omega) (by omega) Tok_h243 (fun h245 frh245 w246 w247 xp248 Tok_h245t249 => ?_))
        have gh245 : my_fr [(10, 7), (10, 8), (67, -1), (68, -1), (69, -1)] h h245 := my_fr.tr gh243 (frh245.mo rfl)
        have Mq_h245 : Mq h245 wv := Mq_ag (my_ag.fr frh245 rfl) Mq_h243
        have P6_h245 : h245 167 6 = h 167 6 := P6_ag (my_ag.fr frh245 rfl) P6_h243
        show wp l rho (d + 3) 189 106 [(2, 151), (0, x1), (0, v225)] [] h245 Q
        refine w_aload_n gz_189_106 rfl ?_
        refine w_getX (v := 169) gz_189_107 is_151 rd_10 rfl (by decide) rfl ?_
        refine w_iload_n gz_189_110 rfl ?_
        refine w_aload_n gz_189_111 rfl ?_
        refine w_aload_n gz_189_112 rfl ?_
        refine v_getI (j := 27) gz_189_113 rfl is_151 rd_10 rfl (fun v251 ev251 pv251 qv251 => ?_)
        have zv251 := ev251.trans ((my_fr.at frh245 is_151 rfl).trans ((my_up_role fh243 is_151 is_170 rfl).trans ((my_up_fld fh234 (by decide)).trans ((my_up_role fh2 is_151 is_168 rfl).trans ek151_27.symm))))
        refine w_iconst gz_189_116 (by decide) ?_
        refine w_isub gz_189_117 ⟨by omega, by omega⟩ ?_
        refine w_inv (k := 0) (as := [(0, (v251 - 1))]) (r := [(0, x1), (2, 169)]) (x := 151) (ls0 := [(2, 151), (0, (v251 - 1))]) gz_189_118 gm_187 rfl is_151 rd_10 rfl rfl rfl rfl rfl (c_Model_takeNumber2_f1 (d := (d + 1)) (x1 := (v251 - 1)) (by omega) (by omega) ((2 + (16 * v233))) (((my_fr.at frh245 is_151 rfl).trans ((my_up_role fh243 is_151 is_170 rfl).trans (my_up_self fh234)))) (by omega) (by omega) Tok_h245t249 (fun w252 w253 xp254 Tok_h245t255 => ?_))
        show wp l rho (d + 3) 189 121 [(2, 151), (0, x1), (0, v225)] [(0, 0), (0, x1), (2, 169)] h245 Q
        have hi256 : 0 ≤ 0 := by omega
        have hi257 : 0 ≤ 7 := by omega
        refine w_iast gz_189_121 is_169 rd_68 (by omega) (by omega) (by omega) (by omega) (fun h258 fh258 => ?_)
        have gh258 : my_fr [(10, 7), (10, 8), (67, -1), (68, -1), (69, -1)] h h258 := my_fr.up gh245 is_169 fh258 rfl
        have Mq_h258 : Mq h258 wv := Mq_u (a := 169) hwv (by decide) (by omega) fh258 Mq_h245
        have P6_h258 : h258 167 6 = h 167 6 := P6_ag (my_ag.up fh258 is_169 rfl) P6_h245
        have Tok_h258 : Tok h258 := Tok_ag (my_ag.up fh258 is_169 rfl) Tok_h245t255
        have ce259 : h258 151 7 = h245 151 7 := ((my_up_role fh258 is_151 is_169 rfl).trans (rfl : h245 151 7 = h245 151 7))
        have ce260 : h258 151 27 = v251 := ((my_up_role fh258 is_151 is_169 rfl).trans ev251.symm)
        have a168 : ∀ j : Int, h258 168 j = h2 168 j := fun j => ((my_up_role fh258 is_168 is_169 rfl).trans ((my_fr.at frh245 is_168 rfl).trans ((my_up_role fh243 is_168 is_170 rfl).trans ((my_up_role fh234 is_168 is_151 rfl).trans (rfl : h2 168 j = h2 168 j)))))
        have a170 : ∀ j : Int, h258 170 j = h243 170 j := fun j => ((my_up_role fh258 is_170 is_169 rfl).trans ((my_fr.at frh245 is_170 rfl).trans (rfl : h243 170 j = h243 170 j)))
        have a157 : ∀ j : Int, h258 157 j = h 157 j := fun j => ((my_up_role fh258 is_157 is_169 rfl).trans ((my_fr.at frh245 is_157 rfl).trans ((my_up_role fh243 is_157 is_170 rfl).trans ((my_up_role fh234 is_157 is_151 rfl).trans ((my_up_role fh2 is_157 is_168 rfl).trans (rfl : h 157 j = h 157 j))))))
        have c261 := ((my_up_role fh258 is_151 is_169 rfl).trans ((my_fr.at frh245 is_151 rfl).trans ((my_up_role fh243 is_151 is_170 rfl).trans (my_up_self fh234))))
        exact w_vret gz_189_122 gm_189 (k0 h258 (gh258) (by omega) (by omega) (by first | omega | (exfalso; subst_vars; omega) | (refine ⟨fun q => ?_, fun q => ?_⟩ <;> first | (rw [a168, k168] at q; omega) | (have kz := k170.trans (show _ = vz by omega); rw [a170, kz, a157]; omega))) Tok_h258 Mq_h258)
      ·
        refine w_aload_n gz_189_63 rfl ?_
        refine v_getI (j := 27) gz_189_64 rfl is_151 rd_10 rfl (fun v262 ev262 pv262 qv262 => ?_)
        have zv262 := ev262.trans ((my_up_role fh2 is_151 is_168 rfl).trans ek151_27.symm)
        refine w_iload_n gz_189_67 rfl ?_
        refine w_iadd gz_189_68 ⟨by omega, by omega⟩ ?_
        refine w_iconst gz_189_69 (by decide) ?_
        refine w_isub gz_189_70 ⟨by omega, by omega⟩ ?_
        refine w_bipush gz_189_71 (by decide) ?_
        refine w_icle (t := 89) gz_189_73 rfl (fun u263 => ?_) (fun u263 => ?_)
        ·
          refine w_aload_n gz_189_89 rfl ?_
          refine w_getX (v := 170) gz_189_90 is_151 rd_10 rfl (by decide) rfl ?_
          refine w_iload_n gz_189_93 rfl ?_
          refine w_aload_n gz_189_94 rfl ?_
          refine w_iconst gz_189_95 (by decide) ?_
          have ce265 : h2 151 7 = v220 := ev220.symm
          refine w_inv (k := 0) (as := [(0, 2)]) (r := [(0, x1), (2, 170)]) (x := 151) (ls0 := [(2, 151), (0, 2)]) gz_189_96 gm_187 rfl is_151 rd_10 rfl rfl rfl rfl rfl (c_Model_takeNumber2_f0 (d := (d + 1)) (x1 := 2) (by omega) (by omega) (ev3.symm.trans (by omega)) Tok_h2 (fun h266 frh266 w267 w268 xp269 Tok_h266t270 => ?_) (fun h271 v272 frh271 w273 w274 w275 w276 w277 xp278 xp279 xp280 xp281 xp282 Tok_h271t283 => ?_))
          ·
            have gh266 : my_fr [(10, 7), (10, 8), (67, -1), (68, -1), (69, -1)] h h266 := my_fr.tr gh2 (frh266.mo rfl)
            have Mq_h266 : Mq h266 wv := Mq_ag (my_ag.fr frh266 rfl) Mq_h2
            have P6_h266 : h266 167 6 = h 167 6 := P6_ag (my_ag.fr frh266 rfl) P6_h2
            show wp l rho (d + 3) 189 99 [(2, 151), (0, x1), (0, v225)] [(0, 0), (0, x1), (2, 170)] h266 Q
            have hi284 : 0 ≤ 0 := by omega
            have hi285 : 0 ≤ 2 := by omega
            refine w_iast gz_189_99 is_170 rd_69 (by omega) (by omega) (by omega) (by omega) (fun h286 fh286 => ?_)
            have gh286 : my_fr [(10, 7), (10, 8), (67, -1), (68, -1), (69, -1)] h h286 := my_fr.up gh266 is_170 fh286 rfl
            have Mq_h286 : Mq h286 wv := Mq_u (a := 170) hwv (by decide) (by omega) fh286 Mq_h266
            have P6_h286 : h286 167 6 = h 167 6 := P6_ag (my_ag.up fh286 is_170 rfl) P6_h266
            have Tok_h286 : Tok h286 := Tok_ag (my_ag.up fh286 is_170 rfl) Tok_h266t270
            have k170 := my_up_self fh286
            refine w_aload_n gz_189_100 rfl ?_
            refine w_bipush gz_189_101 (by decide) ?_
            have ce287 : h286 151 7 = h266 151 7 := ((my_up_role fh286 is_151 is_170 rfl).trans (rfl : h266 151 7 = h266 151 7))
            refine w_inv (k := 0) (as := [(0, 9)]) (r := []) (x := 151) (ls0 := [(2, 151), (0, 9)]) gz_189_103 gm_175 rfl is_151 rd_10 rfl rfl rfl rfl rfl (c_Model_takeWord_f1 (d := d)  ((h266 151 8)) (((my_up_role fh286 is_151 is_170 rfl).trans (rfl : h266 151 8 = h266 151 8))) (by omega) (by omega) Tok_h286 (fun h288 frh288 w289 w290 xp291 Tok_h288t292 => ?_))
            have gh288 : my_fr [(10, 7), (10, 8), (67, -1), (68, -1), (69, -1)] h h288 := my_fr.tr gh286 (frh288.mo rfl)
            have Mq_h288 : Mq h288 wv := Mq_ag (my_ag.fr frh288 rfl) Mq_h286
            have P6_h288 : h288 167 6 = h 167 6 := P6_ag (my_ag.fr frh288 rfl) P6_h286
            show wp l rho (d + 3) 189 106 [(2, 151), (0, x1), (0, v225)] [] h288 Q
            refine w_aload_n gz_189_106 rfl ?_
            refine w_getX (v := 169) gz_189_107 is_151 rd_10 rfl (by decide) rfl ?_
            refine w_iload_n gz_189_110 rfl ?_
            refine w_aload_n gz_189_111 rfl ?_
            refine w_aload_n gz_189_112 rfl ?_
            refine v_getI (j := 27) gz_189_113 rfl is_151 rd_10 rfl (fun v294 ev294 pv294 qv294 => ?_)
            have zv294 := ev294.trans ((my_fr.at frh288 is_151 rfl).trans ((my_up_role fh286 is_151 is_170 rfl).trans ((my_fr.at frh266 is_151 rfl).trans ev262.symm)))
            refine w_iconst gz_189_116 (by decide) ?_
            refine w_isub gz_189_117 ⟨by omega, by omega⟩ ?_
            refine w_inv (k := 0) (as := [(0, (v294 - 1))]) (r := [(0, x1), (2, 169)]) (x := 151) (ls0 := [(2, 151), (0, (v294 - 1))]) gz_189_118 gm_187 rfl is_151 rd_10 rfl rfl rfl rfl rfl (c_Model_takeNumber2_f1 (d := (d + 1)) (x1 := (v294 - 1)) (by omega) (by omega) ((h266 151 8)) (((my_fr.at frh288 is_151 rfl).trans ((my_up_role fh286 is_151 is_170 rfl).trans (rfl : h266 151 8 = h266 151 8)))) (by omega) (by omega) Tok_h288t292 (fun w295 w296 xp297 Tok_h288t298 => ?_))
            show wp l rho (d + 3) 189 121 [(2, 151), (0, x1), (0, v225)] [(0, 0), (0, x1), (2, 169)] h288 Q
            have hi299 : 0 ≤ 0 := by omega
            have hi300 : 0 ≤ 7 := by omega
            refine w_iast gz_189_121 is_169 rd_68 (by omega) (by omega) (by omega) (by omega) (fun h301 fh301 => ?_)
            have gh301 : my_fr [(10, 7), (10, 8), (67, -1), (68, -1), (69, -1)] h h301 := my_fr.up gh288 is_169 fh301 rfl
            have Mq_h301 : Mq h301 wv := Mq_u (a := 169) hwv (by decide) (by omega) fh301 Mq_h288
            have P6_h301 : h301 167 6 = h 167 6 := P6_ag (my_ag.up fh301 is_169 rfl) P6_h288
            have Tok_h301 : Tok h301 := Tok_ag (my_ag.up fh301 is_169 rfl) Tok_h288t298
            have ce302 : h301 151 7 = h288 151 7 := ((my_up_role fh301 is_151 is_169 rfl).trans (rfl : h288 151 7 = h288 151 7))
            have ce303 : h301 151 27 = v294 := ((my_up_role fh301 is_151 is_169 rfl).trans ev294.symm)
            have a168 : ∀ j : Int, h301 168 j = h2 168 j := fun j => ((my_up_role fh301 is_168 is_169 rfl).trans ((my_fr.at frh288 is_168 rfl).trans ((my_up_role fh286 is_168 is_170 rfl).trans ((my_fr.at frh266 is_168 rfl).trans (rfl : h2 168 j = h2 168 j)))))
            have a170 : ∀ j : Int, h301 170 j = h286 170 j := fun j => ((my_up_role fh301 is_170 is_169 rfl).trans ((my_fr.at frh288 is_170 rfl).trans (rfl : h286 170 j = h286 170 j)))
            have a157 : ∀ j : Int, h301 157 j = h 157 j := fun j => ((my_up_role fh301 is_157 is_169 rfl).trans ((my_fr.at frh288 is_157 rfl).trans ((my_up_role fh286 is_157 is_170 rfl).trans ((my_fr.at frh266 is_157 rfl).trans ((my_up_role fh2 is_157 is_168 rfl).trans (rfl : h 157 j = h 157 j))))))
            have c304 := ((my_up_role fh301 is_151 is_169 rfl).trans ((my_fr.at frh288 is_151 rfl).trans ((my_up_role fh286 is_151 is_170 rfl).trans (rfl : h266 151 8 = h266 151 8))))
            exact w_vret gz_189_122 gm_189 (k0 h301 (gh301) (by omega) (by omega) (by first | omega | (exfalso; subst_vars; omega) | (refine ⟨fun q => ?_, fun q => ?_⟩ <;> first | (rw [a168, k168] at q; omega) | (have kz := k170.trans (show _ = vz by omega); rw [a170, kz, a157]; omega))) Tok_h301 Mq_h301)
          ·
            have gh271 : my_fr [(10, 7), (10, 8), (67, -1), (68, -1), (69, -1)] h h271 := my_fr.tr gh2 (frh271.mo rfl)
            have Mq_h271 : Mq h271 wv := Mq_ag (my_ag.fr frh271 rfl) Mq_h2
            have P6_h271 : h271 167 6 = h 167 6 := P6_ag (my_ag.fr frh271 rfl) P6_h2
            show wp l rho (d + 3) 189 99 [(2, 151), (0, x1), (0, v225)] [(0, v272), (0, x1), (2, 170)] h271 Q
            have hi305 : 0 ≤ v272 := by omega
            have hi306 : v272 ≤ 2 := by omega
            refine w_iast gz_189_99 is_170 rd_69 (by omega) (by omega) (by omega) (by omega) (fun h307 fh307 => ?_)
            have gh307 : my_fr [(10, 7), (10, 8), (67, -1), (68, -1), (69, -1)] h h307 := my_fr.up gh271 is_170 fh307 rfl
            have Mq_h307 : Mq h307 wv := Mq_u (a := 170) hwv (by decide) (by omega) fh307 Mq_h271
            have P6_h307 : h307 167 6 = h 167 6 := P6_ag (my_ag.up fh307 is_170 rfl) P6_h271
            have Tok_h307 : Tok h307 := Tok_ag (my_ag.up fh307 is_170 rfl) Tok_h271t283
            have k170 := my_up_self fh307
            refine w_aload_n gz_189_100 rfl ?_
            refine w_bipush gz_189_101 (by decide) ?_
            have ce308 : h307 151 7 = (h271 151 7) := ((my_up_role fh307 is_151 is_170 rfl).trans (rfl : h271 151 7 = h271 151 7))
            refine w_inv (k := 0) (as := [(0, 9)]) (r := []) (x := 151) (ls0 := [(2, 151), (0, 9)]) gz_189_103 gm_175 rfl is_151 rd_10 rfl rfl rfl rfl rfl (c_Model_takeWord_f0 (d := d) (x1 := 9) (by omega) (by omega) (((my_up_role fh307 is_151 is_170 rfl).trans w277).trans (by omega)) Tok_h307 (fun h309 frh309 w310 w311 xp312 Tok_h309t313 => ?_) (fun h314 frh314 w315 w316 w317 xp318 Tok_h314t319 => ?_))
            ·
              have gh309 : my_fr [(10, 7), (10, 8), (67, -1), (68, -1), (69, -1)] h h309 := my_fr.tr gh307 (frh309.mo rfl)
              have Mq_h309 : Mq h309 wv := Mq_ag (my_ag.fr frh309 rfl) Mq_h307
              have P6_h309 : h309 167 6 = h 167 6 := P6_ag (my_ag.fr frh309 rfl) P6_h307
              show wp l rho (d + 3) 189 106 [(2, 151), (0, x1), (0, v225)] [] h309 Q
              refine w_aload_n gz_189_106 rfl ?_
              refine w_getX (v := 169) gz_189_107 is_151 rd_10 rfl (by decide) rfl ?_
              refine w_iload_n gz_189_110 rfl ?_
              refine w_aload_n gz_189_111 rfl ?_
              refine w_aload_n gz_189_112 rfl ?_
              refine v_getI (j := 27) gz_189_113 rfl is_151 rd_10 rfl (fun v321 ev321 pv321 qv321 => ?_)
              have zv321 := ev321.trans ((my_fr.at frh309 is_151 rfl).trans ((my_up_role fh307 is_151 is_170 rfl).trans ((my_fr.at frh271 is_151 rfl).trans ev262.symm)))
              refine w_iconst gz_189_116 (by decide) ?_
              refine w_isub gz_189_117 ⟨by omega, by omega⟩ ?_
              refine w_inv (k := 0) (as := [(0, (v321 - 1))]) (r := [(0, x1), (2, 169)]) (x := 151) (ls0 := [(2, 151), (0, (v321 - 1))]) gz_189_118 gm_187 rfl is_151 rd_10 rfl rfl rfl rfl rfl (c_Model_takeNumber2_f1 (d := (d + 1)) (x1 := (v321 - 1)) (by omega) (by omega) ((h309 151 8)) ((rfl : h309 151 8 = h309 151 8)) (by omega) (by omega) Tok_h309t313 (fun w322 w323 xp324 Tok_h309t325 => ?_))
              show wp l rho (d + 3) 189 121 [(2, 151), (0, x1), (0, v225)] [(0, 0), (0, x1), (2, 169)] h309 Q
              have hi326 : 0 ≤ 0 := by omega
              have hi327 : 0 ≤ 7 := by omega
              refine w_iast gz_189_121 is_169 rd_68 (by omega) (by omega) (by omega) (by omega) (fun h328 fh328 => ?_)
              have gh328 : my_fr [(10, 7), (10, 8), (67, -1), (68, -1), (69, -1)] h h328 := my_fr.up gh309 is_169 fh328 rfl
              have Mq_h328 : Mq h328 wv := Mq_u (a := 169) hwv (by decide) (by omega) fh328 Mq_h309
              have P6_h328 : h328 167 6 = h 167 6 := P6_ag (my_ag.up fh328 is_169 rfl) P6_h309
              have Tok_h328 : Tok h328 := Tok_ag (my_ag.up fh328 is_169 rfl) Tok_h309t325
              have ce329 : h328 151 7 = h309 151 7 := ((my_up_role fh328 is_151 is_169 rfl).trans (rfl : h309 151 7 = h309 151 7))
              have ce330 : h328 151 27 = v321 := ((my_up_role fh328 is_151 is_169 rfl).trans ev321.symm)
              have a168 : ∀ j : Int, h328 168 j = h2 168 j := fun j => ((my_up_role fh328 is_168 is_169 rfl).trans ((my_fr.at frh309 is_168 rfl).trans ((my_up_role fh307 is_168 is_170 rfl).trans ((my_fr.at frh271 is_168 rfl).trans (rfl : h2 168 j = h2 168 j)))))
              have a170 : ∀ j : Int, h328 170 j = h307 170 j := fun j => ((my_up_role fh328 is_170 is_169 rfl).trans ((my_fr.at frh309 is_170 rfl).trans (rfl : h307 170 j = h307 170 j)))
              have a157 : ∀ j : Int, h328 157 j = h 157 j := fun j => ((my_up_role fh328 is_157 is_169 rfl).trans ((my_fr.at frh309 is_157 rfl).trans ((my_up_role fh307 is_157 is_170 rfl).trans ((my_fr.at frh271 is_157 rfl).trans ((my_up_role fh2 is_157 is_168 rfl).trans (rfl : h 157 j = h 157 j))))))
              have c331 := ((my_up_role fh328 is_151 is_169 rfl).trans (rfl : h309 151 8 = h309 151 8))
              exact w_vret gz_189_122 gm_189 (k0 h328 (gh328) (by omega) (by omega) (by first | omega | (exfalso; subst_vars; omega) | (refine ⟨fun q => ?_, fun q => ?_⟩ <;> first | (rw [a168, k168] at q; omega) | (have kz := k170.trans (show _ = vz by omega); rw [a170, kz, a157]; omega))) Tok_h328 Mq_h328)
            ·
              have gh314 : my_fr [(10, 7), (10, 8), (67, -1), (68, -1), (69, -1)] h h314 := my_fr.tr gh307 (frh314.mo rfl)
              have Mq_h314 : Mq h314 wv := Mq_ag (my_ag.fr frh314 rfl) Mq_h307
              have P6_h314 : h314 167 6 = h 167 6 := P6_ag (my_ag.fr frh314 rfl) P6_h307
              show wp l rho (d + 3) 189 106 [(2, 151), (0, x1), (0, v225)] [] h314 Q
              refine w_aload_n gz_189_106 rfl ?_
              refine w_getX (v := 169) gz_189_107 is_151 rd_10 rfl (by decide) rfl ?_
              refine w_iload_n gz_189_110 rfl ?_
              refine w_aload_n gz_189_111 rfl ?_
              refine w_aload_n gz_189_112 rfl ?_
              refine v_getI (j := 27) gz_189_113 rfl is_151 rd_10 rfl (fun v333 ev333 pv333 qv333 => ?_)
              have zv333 := ev333.trans ((my_fr.at frh314 is_151 rfl).trans ((my_up_role fh307 is_151 is_170 rfl).trans ((my_fr.at frh271 is_151 rfl).trans ev262.symm)))
              refine w_iconst gz_189_116 (by decide) ?_
              refine w_isub gz_189_117 ⟨by omega, by omega⟩ ?_
              have ce334 : h314 151 7 = (h314 151 7) := (rfl : h314 151 7 = h314 151 7)
              refine w_inv (k := 0) (as := [(0, (v333 - 1))]) (r := [(0, x1), (2, 169)]) (x := 151) (ls0 := [(2, 151), (0, (v333 - 1))]) gz_189_118 gm_187 rfl is_151 rd_10 rfl rfl rfl rfl rfl (c_Model_takeNumber2_f0 (d := (d + 1)) (x1 := (v333 - 1)) (by omega) (by omega) (w317.trans (by omega)) Tok_h314t319 (fun h335 frh335 w336 w337 xp338 Tok_h335t339 => ?_) (fun h340 v341 frh340 w342 w343 w344 w345 w346 xp347 xp348 xp349 xp350 xp351 Tok_h340t352 => ?_))
              ·
                have gh335 : my_fr [(10, 7), (10, 8), (67, -1), (68, -1), (69, -1)] h h335 := my_fr.tr gh314 (frh335.mo rfl)
                have Mq_h335 : Mq h335 wv := Mq_ag (my_ag.fr frh335 rfl) Mq_h314
                have P6_h335 : h335 167 6 = h 167 6 := P6_ag (my_ag.fr frh335 rfl) P6_h314
                show wp l rho (d + 3) 189 121 [(2, 151), (0, x1), (0, v225)] [(0, 0), (0, x1), (2, 169)] h335 Q
                have hi353 : 0 ≤ 0 := by omega
                have hi354 : 0 ≤ 7 := by omega
                refine w_iast gz_189_121 is_169 rd_68 (by omega) (by omega) (by omega) (by omega) (fun h355 fh355 => ?_)
                have gh355 : my_fr [(10, 7), (10, 8), (67, -1), (68, -1), (69, -1)] h h355 := my_fr.up gh335 is_169 fh355 rfl
                have Mq_h355 : Mq h355 wv := Mq_u (a := 169) hwv (by decide) (by omega) fh355 Mq_h335
                have P6_h355 : h355 167 6 = h 167 6 := P6_ag (my_ag.up fh355 is_169 rfl) P6_h335
                have Tok_h355 : Tok h355 := Tok_ag (my_ag.up fh355 is_169 rfl) Tok_h335t339
                have ce356 : h355 151 7 = h335 151 7 := ((my_up_role fh355 is_151 is_169 rfl).trans (rfl : h335 151 7 = h335 151 7))
                have ce357 : h355 151 27 = v333 := ((my_up_role fh355 is_151 is_169 rfl).trans ((my_fr.at frh335 is_151 rfl).trans ev333.symm))
                have a168 : ∀ j : Int, h355 168 j = h2 168 j := fun j => ((my_up_role fh355 is_168 is_169 rfl).trans ((my_fr.at frh335 is_168 rfl).trans ((my_fr.at frh314 is_168 rfl).trans ((my_up_role fh307 is_168 is_170 rfl).trans ((my_fr.at frh271 is_168 rfl).trans (rfl : h2 168 j = h2 168 j))))))
                have a170 : ∀ j : Int, h355 170 j = h307 170 j := fun j => ((my_up_role fh355 is_170 is_169 rfl).trans ((my_fr.at frh335 is_170 rfl).trans ((my_fr.at frh314 is_170 rfl).trans (rfl : h307 170 j = h307 170 j))))
                have a157 : ∀ j : Int, h355 157 j = h 157 j := fun j => ((my_up_role fh355 is_157 is_169 rfl).trans ((my_fr.at frh335 is_157 rfl).trans ((my_fr.at frh314 is_157 rfl).trans ((my_up_role fh307 is_157 is_170 rfl).trans ((my_fr.at frh271 is_157 rfl).trans ((my_up_role fh2 is_157 is_168 rfl).trans (rfl : h 157 j = h 157 j)))))))
                have c358 := ((my_up_role fh355 is_151 is_169 rfl).trans (rfl : h335 151 8 = h335 151 8))
                exact w_vret gz_189_122 gm_189 (k0 h355 (gh355) (by omega) (by omega) (by first | omega | (exfalso; subst_vars; omega) | (refine ⟨fun q => ?_, fun q => ?_⟩ <;> first | (rw [a168, k168] at q; omega) | (have kz := k170.trans (show _ = vz by omega); rw [a170, kz, a157]; omega))) Tok_h355 Mq_h355)
              ·
                have gh340 : my_fr [(10, 7), (10, 8), (67, -1), (68, -1), (69, -1)] h h340 := my_fr.tr gh314 (frh340.mo rfl)
                have Mq_h340 : Mq h340 wv := Mq_ag (my_ag.fr frh340 rfl) Mq_h314
                have P6_h340 : h340 167 6 = h 167 6 := P6_ag (my_ag.fr frh340 rfl) P6_h314
                show wp l rho (d + 3) 189 121 [(2, 151), (0, x1), (0, v225)] [(0, v341), (0, x1), (2, 169)] h340 Q
                have hi359 : 0 ≤ v341 := by omega
                have hi360 : v341 ≤ 7 := by omega
                refine w_iast gz_189_121 is_169 rd_68 (by omega) (by omega) (by omega) (by omega) (fun h361 fh361 => ?_)
                have gh361 : my_fr [(10, 7), (10, 8), (67, -1), (68, -1), (69, -1)] h h361 := my_fr.up gh340 is_169 fh361 rfl
                have Mq_h361 : Mq h361 wv := Mq_u (a := 169) hwv (by decide) (by omega) fh361 Mq_h340
                have P6_h361 : h361 167 6 = h 167 6 := P6_ag (my_ag.up fh361 is_169 rfl) P6_h340
                have Tok_h361 : Tok h361 := Tok_ag (my_ag.up fh361 is_169 rfl) Tok_h340t352
                have ce362 : h361 151 7 = (h340 151 7) := ((my_up_role fh361 is_151 is_169 rfl).trans (rfl : h340 151 7 = h340 151 7))
                have ce363 : h361 151 27 = v333 := ((my_up_role fh361 is_151 is_169 rfl).trans ((my_fr.at frh340 is_151 rfl).trans ev333.symm))
                have a168 : ∀ j : Int, h361 168 j = h2 168 j := fun j => ((my_up_role fh361 is_168 is_169 rfl).trans ((my_fr.at frh340 is_168 rfl).trans ((my_fr.at frh314 is_168 rfl).trans ((my_up_role fh307 is_168 is_170 rfl).trans ((my_fr.at frh271 is_168 rfl).trans (rfl : h2 168 j = h2 168 j))))))
                have a170 : ∀ j : Int, h361 170 j = h307 170 j := fun j => ((my_up_role fh361 is_170 is_169 rfl).trans ((my_fr.at frh340 is_170 rfl).trans ((my_fr.at frh314 is_170 rfl).trans (rfl : h307 170 j = h307 170 j))))
                have a157 : ∀ j : Int, h361 157 j = h 157 j := fun j => ((my_up_role fh361 is_157 is_169 rfl).trans ((my_fr.at frh340 is_157 rfl).trans ((my_fr.at frh314 is_157 rfl).trans ((my_up_role fh307 is_157 is_170 rfl).trans ((my_fr.at frh271 is_157 rfl).trans ((my_up_role fh2 is_157 is_168 rfl).trans (rfl : h 157 j = h 157 j)))))))
                have c364 := ((my_up_role fh361 is_151 is_169 rfl).trans (rfl : h340 151 7 = h340 151 7))
                have c365 := ((my_up_role fh361 is_151 is_169 rfl).trans w346)
                exact w_vret gz_189_122 gm_189 (k1 h361 (gh361) (by omega) (by omega) (by omega) (by first | omega | (exfalso; subst_vars; omega) | (refine ⟨fun q => ?_, fun q => ?_⟩ <;> first | (rw [a168, k168] at q; omega) | (have kz := k170.trans (show _ = vz by omega); rw [a170, kz, a157]; omega))) (by first | omega | (exfalso; subst_vars; omega) | (refine ⟨fun q => ?_, fun q => ?_⟩ <;> first | (rw [a168, k168] at q; omega) | (have kz := k170.trans (show _ = vz by omega); rw [a170, kz, a157]; omega))) (by first | omega | (exfalso; subst_vars; omega) | (refine ⟨fun q => ?_, fun q => ?_⟩ <;> first | (rw [a168, k168] at q; omega) | (have kz := k170.trans (show _ = vz by omega); rw [a170, kz, a157]; omega))) Tok_h361 Mq_h361)
        ·
          refine w_aload_n gz_189_76 rfl ?_
          refine w_iload_n gz_189_77 rfl ?_
          refine w_ifne (t := 85) gz_189_78 rfl (fun u366 => ?_) (fun u366 => by exfalso; omega)
          refine w_iconst gz_189_85 (by decide) ?_
          have ce367 : h2 151 7 = v220 := ev220.symm
          refine w_inv (k := 0) (as := [(0, 5)]) (r := []) (x := 151) (ls0 := [(2, 151), (0, 5)]) gz_189_86 gm_178 rfl is_151 rd_10 rfl rfl rfl rfl rfl ?_
          refine w_aload_n gz_178_0 rfl ?_
          refine v_getI (j := 8) gz_178_1 rfl is_151 rd_10 rfl (fun v368 ev368 pv368 qv368 => ?_)
          have zv368 := ev368.trans ev3.symm
          refine w_ifne (t := 25) gz_178_4 rfl (fun u369 => by exfalso; omega) (fun u369 => ?_)
          refine w_aload_n gz_178_7 rfl ?_
          refine w_iload_n gz_178_8 rfl ?_
          refine w_bipush gz_178_9 (by decide) ?_
          refine w_aload_n gz_178_11 rfl ?_
          refine w_getX (v := 154) gz_178_12 is_151 rd_10 rfl (by decide) rfl ?_
          refine w_aload_n gz_178_15 rfl ?_
          refine v_getI (j := 7) gz_178_16 rfl is_151 rd_10 rfl (fun v371 ev371 pv371 qv371 => ?_)
          have zv371 := ev371.trans ev220.symm
          refine w_iald gz_178_19 is_154 rd_53 (by omega) (by omega) (fun v372 ev372 pv372 qv372 => ?_)
          refine w_imul gz_178_20 ⟨by omega, by omega⟩ ?_
          refine w_iadd gz_178_21 ⟨by omega, by omega⟩ ?_
          refine v_putI (j := 8) gz_178_22 rfl is_151 rd_10 rfl (by omega) (by omega) rfl (fun h373 fh373 => ?_)
          have gh373 : my_fr [(10, 7), (10, 8), (67, -1), (68, -1), (69, -1)] h h373 := my_fr.up gh2 is_151 fh373 rfl
          have Tok_h373 : Tok h373 := Tok_ag (my_ag.up fh373 is_151 rfl) Tok_h2
          have Mq_h373 : Mq h373 wv := Mq_ag (my_ag.up fh373 is_151 rfl) Mq_h2
          have P6_h373 : h373 167 6 = h 167 6 := P6_ag (my_ag.up fh373 is_151 rfl) P6_h2
          refine w_vret gz_178_25 gm_178 ?_
          show wp l rho (d + 3) 189 89 [(2, 151), (0, x1), (0, v225)] [] h373 Q
          refine w_aload_n gz_189_89 rfl ?_
          refine w_getX (v := 170) gz_189_90 is_151 rd_10 rfl (by decide) rfl ?_
          refine w_iload_n gz_189_93 rfl ?_
          refine w_aload_n gz_189_94 rfl ?_
          refine w_iconst gz_189_95 (by decide) ?_
          have ce375 : h373 151 7 = v371 := ((my_up_fld fh373 (by decide)).trans ev371.symm)
          refine w_inv (k := 0) (as := [(0, 2)]) (r := [(0, x1), (2, 170)]) (x := 151) (ls0 := [(2, 151), (0, 2)]) gz_189_96 gm_187 rfl is_151 rd_10 rfl rfl rfl rfl rfl (c_Model_takeNumber2_f1 (d := (d + 1)) (x1 := 2) (by omega) (by omega) ((5 + (16 * v372))) ((my_up_self fh373)) (by omega) (by omega) Tok_h373 (fun w376 w377 xp378 Tok_h373t379 => ?_))
          show wp l rho (d + 3) 189 99 [(2, 151), (0, x1), (0, v225)] [(0, 0), (0, x1), (2, 170)] h373 Q
          have hi380 : 0 ≤ 0 := by omega
          have hi381 : 0 ≤ 2 := by omega
          refine w_iast gz_189_99 is_170 rd_69 (by omega) (by omega) (by omega) (by omega) (fun h382 fh382 => ?_)
          have gh382 : my_fr [(10, 7), (10, 8), (67, -1), (68, -1), (69, -1)] h h382 := my_fr.up gh373 is_170 fh382 rfl
          have Tok_h382 : Tok h382 := Tok_ag (my_ag.up fh382 is_170 rfl) Tok_h373t379
          have Mq_h382 : Mq h382 wv := Mq_u (a := 170) hwv (by decide) (by omega) fh382 Mq_h373
          have P6_h382 : h382 167 6 = h 167 6 := P6_ag (my_ag.up fh382 is_170 rfl) P6_h373
          have k170 := my_up_self fh382
          refine w_aload_n gz_189_100 rfl ?_
          refine w_bipush gz_189_101 (by decide) ?_
          have ce383 : h382 151 7 = v371 := ((my_up_role fh382 is_151 is_170 rfl).trans ((my_up_fld fh373 (by decide)).trans ev371.symm))
          refine w_inv (k := 0) (as := [(0, 9)]) (r := []) (x := 151) (ls0 := [(2, 151), (0, 9)]) gz_189_103 gm_175 rfl is_151 rd_10 rfl rfl rfl rfl rfl (c_Model_takeWord_f1 (d := d)  ((5 + (16 * v372))) (((my_up_role fh382 is_151 is_170 rfl).trans (my_up_self fh373))) (by omega) (by omega) Tok_h382 (fun h384 frh384 w385 w386 xp387 Tok_h384t388 => ?_))
          have gh384 : my_fr [(10, 7), (10, 8), (67, -1), (68, -1), (69, -1)] h h384 := my_fr.tr gh382 (frh384.mo rfl)
          have Mq_h384 : Mq h384 wv := Mq_ag (my_ag.fr frh384 rfl) Mq_h382
          have P6_h384 : h384 167 6 = h 167 6 := P6_ag (my_ag.fr frh384 rfl) P6_h382
          show wp l rho (d + 3) 189 106 [(2, 151), (0, x1), (0, v225)] [] h384 Q
          refine w_aload_n gz_189_106 rfl ?_
          refine w_getX (v := 169) gz_189_107 is_151 rd_10 rfl (by decide) rfl ?_
          refine w_iload_n gz_189_110 rfl ?_
          refine w_aload_n gz_189_111 rfl ?_
          refine w_aload_n gz_189_112 rfl ?_
          refine v_getI (j := 27) gz_189_113 rfl is_151 rd_10 rfl (fun v390 ev390 pv390 qv390 => ?_)
          have zv390 := ev390.trans ((my_fr.at frh384 is_151 rfl).trans ((my_up_role fh382 is_151 is_170 rfl).trans ((my_up_fld fh373 (by decide)).trans ev262.symm)))
          refine w_iconst gz_189_116 (by decide) ?_
          refine w_isub gz_189_117 ⟨by omega, by omega⟩ ?_
          refine w_inv (k := 0) (as := [(0, (v390 - 1))]) (r := [(0, x1), (2, 169)]) (x := 151) (ls0 := [(2, 151), (0, (v390 - 1))]) gz_189_118 gm_187 rfl is_151 rd_10 rfl rfl rfl rfl rfl (c_Model_takeNumber2_f1 (d := (d + 1)) (x1 := (v390 - 1)) (by omega) (by omega) ((5 + (16 * v372))) (((my_fr.at frh384 is_151 rfl).trans ((my_up_role fh382 is_151 is_170 rfl).trans (my_up_self fh373)))) (by omega) (by omega) Tok_h384t388 (fun w391 w392 xp393 Tok_h384t394 => ?_))
          show wp l rho (d + 3) 189 121 [(2, 151), (0, x1), (0, v225)] [(0, 0), (0, x1), (2, 169)] h384 Q
          have hi395 : 0 ≤ 0 := by omega
          have hi396 : 0 ≤ 7 := by omega
          refine w_iast gz_189_121 is_169 rd_68 (by omega) (by omega) (by omega) (by omega) (fun h397 fh397 => ?_)
          have gh397 : my_fr [(10, 7), (10, 8), (67, -1), (68, -1), (69, -1)] h h397 := my_fr.up gh384 is_169 fh397 rfl
          have Mq_h397 : Mq h397 wv := Mq_u (a := 169) hwv (by decide) (by omega) fh397 Mq_h384
          have P6_h397 : h397 167 6 = h 167 6 := P6_ag (my_ag.up fh397 is_169 rfl) P6_h384
          have Tok_h397 : Tok h397 := Tok_ag (my_ag.up fh397 is_169 rfl) Tok_h384t394
          have ce398 : h397 151 7 = h384 151 7 := ((my_up_role fh397 is_151 is_169 rfl).trans (rfl : h384 151 7 = h384 151 7))
          have ce399 : h397 151 27 = v390 := ((my_up_role fh397 is_151 is_169 rfl).trans ev390.symm)
          have a168 : ∀ j : Int, h397 168 j = h2 168 j := fun j => ((my_up_role fh397 is_168 is_169 rfl).trans ((my_fr.at frh384 is_168 rfl).trans ((my_up_role fh382 is_168 is_170 rfl).trans ((my_up_role fh373 is_168 is_151 rfl).trans (rfl : h2 168 j = h2 168 j)))))
          have a170 : ∀ j : Int, h397 170 j = h382 170 j := fun j => ((my_up_role fh397 is_170 is_169 rfl).trans ((my_fr.at frh384 is_170 rfl).trans (rfl : h382 170 j = h382 170 j)))
          have a157 : ∀ j : Int, h397 157 j = h 157 j := fun j => ((my_up_role fh397 is_157 is_169 rfl).trans ((my_fr.at frh384 is_157 rfl).trans ((my_up_role fh382 is_157 is_170 rfl).trans ((my_up_role fh373 is_157 is_151 rfl).trans ((my_up_role fh2 is_157 is_168 rfl).trans (rfl : h 157 j = h 157 j))))))
          have c400 := ((my_up_role fh397 is_151 is_169 rfl).trans ((my_fr.at frh384 is_151 rfl).trans ((my_up_role fh382 is_151 is_170 rfl).trans (my_up_self fh373))))
          exact w_vret gz_189_122 gm_189 (k0 h397 (gh397) (by omega) (by omega) (by first | omega | (exfalso; subst_vars; omega) | (refine ⟨fun q => ?_, fun q => ?_⟩ <;> first | (rw [a168, k168] at q; omega) | (have kz := k170.trans (show _ = vz by omega); rw [a170, kz, a157]; omega))) Tok_h397 Mq_h397)
theorem c_Model_readSum2_f0 {l : Launch} {rho : Nat → Int32} {d : Nat} {h : my_H} {Q : my_H → my_V → Prop} {x1 : Int} {wv : Int} (a1 : 36 ≤ x1) (b1 : x1 ≤ 41) (cf : h 151 8 = 0) (hwv : wv ≤ 5) (hwv0 : 0 ≤ wv) (n_Tok : Tok h) (n_Mq : Mq h wv) (hp : x1 = 36 + h 167 6) (k0 : ∀ (h' : my_H), my_fr [(10, 7), (10, 8), (67, -1), (68, -1), (69, -1)] h h' → 1 ≤ h' 151 8 → h' 151 8 ≤ 16004 → h 151 7 ≤ h' 151 7 → Tok h' → Mq h' wv → Q h' (9, 0)) (k1 : ∀ (h' : my_H), my_fr [(10, 7), (10, 8), (67, -1), (68, -1), (69, -1)] h h' → 1 ≤ h' 151 7 → h' 151 7 ≤ 1001 → h' 151 8 = 0 → PaneOk h' x1 → Pk3 h' x1 (h' 151 27) → h 151 7 ≤ h' 151 7 → Tok h' → Mq h' wv → Q h' (9, 0)) : wp l rho (d + 3) 190 0 [(2, 151), (0, x1)] [] h Q := by
  refine v_know (x := 151) (j := 7) (b := 7) rfl is_151 rd_10 rfl (fun k151_7 ek151_7 pk151_7 qk151_7 => ?_)
  refine v_know (x := 151) (j := 27) (b := 27) rfl is_151 rd_10 rfl (fun k151_27 ek151_27 pk151_27 qk151_27 => ?_)
  refine w_aload_n gz_190_0 rfl ?_
  refine w_getX (v := 168) gz_190_1 is_151 rd_10 rfl (by decide) rfl ?_
  refine w_iload_n gz_190_4 rfl ?_
  refine w_iconst gz_190_5 (by decide) ?_
  refine w_iast gz_190_6 is_168 rd_67 (by omega) (by omega) (by omega) (by omega) (fun h2 fh2 => ?_)
  have gh2 : my_fr [(10, 7), (10, 8), (67, -1), (68, -1), (69, -1)] h h2 := my_fr.up my_fr.rf is_168 fh2 rfl
  have Tok_h2 : Tok h2 := Tok_ag (my_ag.up fh2 is_168 rfl) n_Tok
  have Mq_h2 : Mq h2 wv := Mq_u (a := 168) hwv (by decide) (by omega) fh2 n_Mq
  have P6_h2 : h2 167 6 = h 167 6 := P6_ag (my_ag.up fh2 is_168 rfl) (rfl)
  have k168 : h2 168 x1 = 5 := my_up_self fh2
  refine w_aload_n gz_190_7 rfl ?_
  refine w_getX (v := 170) gz_190_8 is_151 rd_10 rfl (by decide) rfl ?_
  refine w_iload_n gz_190_11 rfl ?_
  refine w_aload_n gz_190_12 rfl ?_
  refine w_aload_n gz_190_13 rfl ?_
  refine v_getI (j := 27) gz_190_14 rfl is_151 rd_10 rfl (fun v4 ev4 pv4 qv4 => ?_)
  have zv4 := ev4.trans ((my_up_role fh2 is_151 is_168 rfl).trans ek151_27.symm)
  refine w_iconst gz_190_17 (by decide) ?_
  refine w_isub gz_190_18 ⟨by omega, by omega⟩ ?_
  have ce5 : h2 151 7 = k151_7 := ((my_up_role fh2 is_151 is_168 rfl).trans ek151_7.symm)
  have ce6 : h2 151 27 = v4 := ev4.symm
  refine w_inv (k := 0) (as := [(0, (v4 - 1))]) (r := [(0, x1), (2, 170)]) (x := 151) (ls0 := [(2, 151), (0, (v4 - 1))]) gz_190_19 gm_187 rfl is_151 rd_10 rfl rfl rfl rfl rfl (c_Model_takeNumber2_f0 (d := (d + 1)) (x1 := (v4 - 1)) (by omega) (by omega) (((my_up_role fh2 is_151 is_168 rfl).trans cf).trans (by omega)) Tok_h2 (fun h7 frh7 w8 w9 xp10 Tok_h7t11 => ?_) (fun h12 v13 frh12 w14 w15 w16 w17 w18 xp19 xp20 xp21 xp22 xp23 Tok_h12t24 => ?_))
  ·
    have gh7 : my_fr [(10, 7), (10, 8), (67, -1), (68, -1), (69, -1)] h h7 := my_fr.tr gh2 (frh7.mo rfl)
    have Mq_h7 : Mq h7 wv := Mq_ag (my_ag.fr frh7 rfl) Mq_h2
    have P6_h7 : h7 167 6 = h 167 6 := P6_ag (my_ag.fr frh7 rfl) P6_h2
    show wp l rho (d + 3) 190 22 [(2, 151), (0, x1)] [(0, 0), (0, x1), (2, 170)] h7 Q
    have hi25 : 0 ≤ 0 := by omega
    have hi26 : 0 ≤ 7 := by omega
    refine w_iast gz_190_22 is_170 rd_69 (by omega) (by omega) (by omega) (by omega) (fun h27 fh27 => ?_)
    have gh27 : my_fr [(10, 7), (10, 8), (67, -1), (68, -1), (69, -1)] h h27 := my_fr.up gh7 is_170 fh27 rfl
    have Mq_h27 : Mq h27 wv := Mq_u (a := 170) hwv (by decide) (by omega) fh27 Mq_h7
    have P6_h27 : h27 167 6 = h 167 6 := P6_ag (my_ag.up fh27 is_170 rfl) P6_h7
    have Tok_h27 : Tok h27 := Tok_ag (my_ag.up fh27 is_170 rfl) Tok_h7t11
    have k170 := my_up_self fh27
    refine w_aload_n gz_190_23 rfl ?_
    refine w_bipush gz_190_24 (by decide) ?_
    have ce28 : h27 151 7 = h7 151 7 := ((my_up_role fh27 is_151 is_170 rfl).trans (rfl : h7 151 7 = h7 151 7))
    have ce29 : h27 151 27 = v4 := ((my_up_role fh27 is_151 is_170 rfl).trans ((my_fr.at frh7 is_151 rfl).trans ev4.symm))
    refine w_inv (k := 0) (as := [(0, 9)]) (r := []) (x := 151) (ls0 := [(2, 151), (0, 9)]) gz_190_26 gm_175 rfl is_151 rd_10 rfl rfl rfl rfl rfl (c_Model_takeWord_f1 (d := d)  ((h7 151 8)) (((my_up_role fh27 is_151 is_170 rfl).trans (rfl : h7 151 8 = h7 151 8))) (by omega) (by omega) Tok_h27 (fun h30 frh30 w31 w32 xp33 Tok_h30t34 => ?_))
    have gh30 : my_fr [(10, 7), (10, 8), (67, -1), (68, -1), (69, -1)] h h30 := my_fr.tr gh27 (frh30.mo rfl)
    have Mq_h30 : Mq h30 wv := Mq_ag (my_ag.fr frh30 rfl) Mq_h27
    have P6_h30 : h30 167 6 = h 167 6 := P6_ag (my_ag.fr frh30 rfl) P6_h27
    show wp l rho (d + 3) 190 29 [(2, 151), (0, x1)] [] h30 Q
    refine w_aload_n gz_190_29 rfl ?_
    refine v_getI (j := 8) gz_190_30 rfl is_151 rd_10 rfl (fun v35 ev35 pv35 qv35 => ?_)
    have zv35 := ev35.trans ((my_fr.at frh30 is_151 rfl).trans ((my_up_role fh27 is_151 is_170 rfl).trans (rfl : h7 151 8 = h7 151 8)))
    refine w_ifne (t := 74) gz_190_33 rfl (fun u36 => ?_) (fun u36 => by exfalso; omega)
    refine w_aload_n gz_190_74 rfl ?_
    refine w_getX (v := 169) gz_190_75 is_151 rd_10 rfl (by decide) rfl ?_
    refine w_iload_n gz_190_78 rfl ?_
    refine w_aload_n gz_190_79 rfl ?_
    refine w_aload_n gz_190_80 rfl ?_
    refine v_getI (j := 27) gz_190_81 rfl is_151 rd_10 rfl (fun v38 ev38 pv38 qv38 => ?_)
    have zv38 := ev38.trans ((my_fr.at frh30 is_151 rfl).trans ((my_up_role fh27 is_151 is_170 rfl).trans ((my_fr.at frh7 is_151 rfl).trans ev4.symm)))
    refine w_iconst gz_190_84 (by decide) ?_
    refine w_isub gz_190_85 ⟨by omega, by omega⟩ ?_
    have ce39 : h30 151 27 = v38 := ev38.symm
    refine w_inv (k := 0) (as := [(0, (v38 - 1))]) (r := [(0, x1), (2, 169)]) (x := 151) (ls0 := [(2, 151), (0, (v38 - 1))]) gz_190_86 gm_187 rfl is_151 rd_10 rfl rfl rfl rfl rfl (c_Model_takeNumber2_f1 (d := (d + 1)) (x1 := (v38 - 1)) (by omega) (by omega) (v35) (ev35.symm) (by omega) (by omega) Tok_h30t34 (fun w40 w41 xp42 Tok_h30t43 => ?_))
    show wp l rho (d + 3) 190 89 [(2, 151), (0, x1)] [(0, 0), (0, x1), (2, 169)] h30 Q
    have hi44 : 0 ≤ 0 := by omega
    have hi45 : 0 ≤ 7 := by omega
    refine w_iast gz_190_89 is_169 rd_68 (by omega) (by omega) (by omega) (by omega) (fun h46 fh46 => ?_)
    have gh46 : my_fr [(10, 7), (10, 8), (67, -1), (68, -1), (69, -1)] h h46 := my_fr.up gh30 is_169 fh46 rfl
    have Mq_h46 : Mq h46 wv := Mq_u (a := 169) hwv (by decide) (by omega) fh46 Mq_h30
    have P6_h46 : h46 167 6 = h 167 6 := P6_ag (my_ag.up fh46 is_169 rfl) P6_h30
    have Tok_h46 : Tok h46 := Tok_ag (my_ag.up fh46 is_169 rfl) Tok_h30t43
    have k169 := my_up_self fh46
    have ce47 : h46 151 7 = h30 151 7 := ((my_up_role fh46 is_151 is_169 rfl).trans (rfl : h30 151 7 = h30 151 7))
    have ce48 : h46 151 27 = v38 := ((my_up_role fh46 is_151 is_169 rfl).trans ev38.symm)
    have a168 : ∀ j : Int, h46 168 j = h2 168 j := fun j => ((my_up_role fh46 is_168 is_169 rfl).trans ((my_fr.at frh30 is_168 rfl).trans ((my_up_role fh27 is_168 is_170 rfl).trans ((my_fr.at frh7 is_168 rfl).trans (rfl : h2 168 j = h2 168 j)))))
    have a170 : ∀ j : Int, h46 170 j = h27 170 j := fun j => ((my_up_role fh46 is_170 is_169 rfl).trans ((my_fr.at frh30 is_170 rfl).trans (rfl : h27 170 j = h27 170 j)))
    have a169 : ∀ j : Int, h46 169 j = h46 169 j := fun _ => rfl
    have c49 := ((my_up_role fh46 is_151 is_169 rfl).trans ev35.symm)
    exact w_vret gz_190_90 gm_190 (k0 h46 (gh46) (by omega) (by omega) (by first | omega | (refine ⟨fun q => ?_, fun q => ?_⟩ <;> first | (rw [a168, k168] at q; omega) | (rw [a170, k170]; omega)) | (refine ⟨fun q => ?_, fun q => ?_, fun q => ?_⟩ <;> first | (exfalso; rw [a168, k168] at q; omega) | (rw [a169, k169]; omega) | (rw [a170, k170]; omega))) Tok_h46 Mq_h46)
  ·
    have gh12 : my_fr [(10, 7), (10, 8), (67, -1), (68, -1), (69, -1)] h h12 := my_fr.tr gh2 (frh12.mo rfl)
    have Mq_h12 : Mq h12 wv := Mq_ag (my_ag.fr frh12 rfl) Mq_h2
    have P6_h12 : h12 167 6 = h 167 6 := P6_ag (my_ag.fr frh12 rfl) P6_h2
    show wp l rho (d + 3) 190 22 [(2, 151), (0, x1)] [(0, v13), (0, x1), (2, 170)] h12 Q
    have hi50 : 0 ≤ v13 := by omega
    have hi51 : v13 ≤ 7 := by omega
    refine w_iast gz_190_22 is_170 rd_69 (by omega) (by omega) (by omega) (by omega) (fun h52 fh52 => ?_)
    have gh52 : my_fr [(10, 7), (10, 8), (67, -1), (68, -1), (69, -1)] h h52 := my_fr.up gh12 is_170 fh52 rfl
    have Mq_h52 : Mq h52 wv := Mq_u (a := 170) hwv (by decide) (by omega) fh52 Mq_h12
    have P6_h52 : h52 167 6 = h 167 6 := P6_ag (my_ag.up fh52 is_170 rfl) P6_h12
    have Tok_h52 : Tok h52 := Tok_ag (my_ag.up fh52 is_170 rfl) Tok_h12t24
    have k170 := my_up_self fh52
    refine w_aload_n gz_190_23 rfl ?_
    refine w_bipush gz_190_24 (by decide) ?_
    have ce53 : h52 151 7 = (h12 151 7) := ((my_up_role fh52 is_151 is_170 rfl).trans (rfl : h12 151 7 = h12 151 7))
    have ce54 : h52 151 27 = v4 := ((my_up_role fh52 is_151 is_170 rfl).trans ((my_fr.at frh12 is_151 rfl).trans ev4.symm))
    refine w_inv (k := 0) (as := [(0, 9)]) (r := []) (x := 151) (ls0 := [(2, 151), (0, 9)]) gz_190_26 gm_175 rfl is_151 rd_10 rfl rfl rfl rfl rfl (c_Model_takeWord_f0 (d := d) (x1 := 9) (by omega) (by omega) (((my_up_role fh52 is_151 is_170 rfl).trans w18).trans (by omega)) Tok_h52 (fun h55 frh55 w56 w57 xp58 Tok_h55t59 => ?_) (fun h60 frh60 w61 w62 w63 xp64 Tok_h60t65 => ?_))
    ·
      have gh55 : my_fr [(10, 7), (10, 8), (67, -1), (68, -1), (69, -1)] h h55 := my_fr.tr gh52 (frh55.mo rfl)
      have Mq_h55 : Mq h55 wv := Mq_ag (my_ag.fr frh55 rfl) Mq_h52
      have P6_h55 : h55 167 6 = h 167 6 := P6_ag (my_ag.fr frh55 rfl) P6_h52
      show wp l rho (d + 3) 190 29 [(2, 151), (0, x1)] [] h55 Q
      refine w_aload_n gz_190_29 rfl ?_
      refine v_getI (j := 8) gz_190_30 rfl is_151 rd_10 rfl (fun v66 ev66 pv66 qv66 => ?_)
      have zv66 := ev66.trans (rfl : h55 151 8 = h55 151 8)
      refine w_ifne (t := 74) gz_190_33 rfl (fun u67 => ?_) (fun u67 => by exfalso; omega)
      refine w_aload_n gz_190_74 rfl ?_
      refine w_getX (v := 169) gz_190_75 is_151 rd_10 rfl (by decide) rfl ?_
      refine w_iload_n gz_190_78 rfl ?_
      refine w_aload_n gz_190_79 rfl ?_
      refine w_aload_n gz_190_80 rfl ?_
      refine v_getI (j := 27) gz_190_81 rfl is_151 rd_10 rfl (fun v69 ev69 pv69 qv69 => ?_)
      have zv69 := ev69.trans ((my_fr.at frh55 is_151 rfl).trans ((my_up_role fh52 is_151 is_170 rfl).trans ((my_fr.at frh12 is_151 rfl).trans ev4.symm)))
      refine w_iconst gz_190_84 (by decide) ?_
      refine w_isub gz_190_85 ⟨by omega, by omega⟩ ?_
      have ce70 : h55 151 27 = v69 := ev69.symm
      refine w_inv (k := 0) (as := [(0, (v69 - 1))]) (r := [(0, x1), (2, 169)]) (x := 151) (ls0 := [(2, 151), (0, (v69 - 1))]) gz_190_86 gm_187 rfl is_151 rd_10 rfl rfl rfl rfl rfl (c_Model_takeNumber2_f1 (d := (d + 1)) (x1 := (v69 - 1)) (by omega) (by omega) (v66) (ev66.symm) (by omega) (by omega) Tok_h55t59 (fun w71 w72 xp73 Tok_h55t74 => ?_))
      show wp l rho (d + 3) 190 89 [(2, 151), (0, x1)] [(0, 0), (0, x1), (2, 169)] h55 Q
      have hi75 : 0 ≤ 0 := by omega
      have hi76 : 0 ≤ 7 := by omega
      refine w_iast gz_190_89 is_169 rd_68 (by omega) (by omega) (by omega) (by omega) (fun h77 fh77 => ?_)
      have gh77 : my_fr [(10, 7), (10, 8), (67, -1), (68, -1), (69, -1)] h h77 := my_fr.up gh55 is_169 fh77 rfl
      have Mq_h77 : Mq h77 wv := Mq_u (a := 169) hwv (by decide) (by omega) fh77 Mq_h55
      have P6_h77 : h77 167 6 = h 167 6 := P6_ag (my_ag.up fh77 is_169 rfl) P6_h55
      have Tok_h77 : Tok h77 := Tok_ag (my_ag.up fh77 is_169 rfl) Tok_h55t74
      have k169 := my_up_self fh77
      have ce78 : h77 151 7 = h55 151 7 := ((my_up_role fh77 is_151 is_169 rfl).trans (rfl : h55 151 7 = h55 151 7))
      have ce79 : h77 151 27 = v69 := ((my_up_role fh77 is_151 is_169 rfl).trans ev69.symm)
      have a168 : ∀ j : Int, h77 168 j = h2 168 j := fun j => ((my_up_role fh77 is_168 is_169 rfl).trans ((my_fr.at frh55 is_168 rfl).trans ((my_up_role fh52 is_168 is_170 rfl).trans ((my_fr.at frh12 is_168 rfl).trans (rfl : h2 168 j = h2 168 j)))))
      have a170 : ∀ j : Int, h77 170 j = h52 170 j := fun j => ((my_up_role fh77 is_170 is_169 rfl).trans ((my_fr.at frh55 is_170 rfl).trans (rfl : h52 170 j = h52 170 j)))
      have a169 : ∀ j : Int, h77 169 j = h77 169 j := fun _ => rfl
      have c80 := ((my_up_role fh77 is_151 is_169 rfl).trans ev66.symm)
      exact w_vret gz_190_90 gm_190 (k0 h77 (gh77) (by omega) (by omega) (by first | omega | (refine ⟨fun q => ?_, fun q => ?_⟩ <;> first | (rw [a168, k168] at q; omega) | (rw [a170, k170]; omega)) | (refine ⟨fun q => ?_, fun q => ?_, fun q => ?_⟩ <;> first | (exfalso; rw [a168, k168] at q; omega) | (rw [a169, k169]; omega) | (rw [a170, k170]; omega))) Tok_h77 Mq_h77)
    ·
      have gh60 : my_fr [(10, 7), (10, 8), (67, -1), (68, -1), (69, -1)] h h60 := my_fr.tr gh52 (frh60.mo rfl)
      have Mq_h60 : Mq h60 wv := Mq_ag (my_ag.fr frh60 rfl) Mq_h52
      have P6_h60 : h60 167 6 = h 167 6 := P6_ag (my_ag.fr frh60 rfl) P6_h52
      show wp l rho (d + 3) 190 29 [(2, 151), (0, x1)] [] h60 Q
      refine w_aload_n gz_190_29 rfl ?_
      refine v_getI (j := 8) gz_190_30 rfl is_151 rd_10 rfl (fun v81 ev81 pv81 qv81 => ?_)
      have zv81 := ev81.trans w63
      refine w_ifne (t := 74) gz_190_33 rfl (fun u82 => by exfalso; omega) (fun u82 => ?_)
      refine w_aload_n gz_190_36 rfl ?_
      refine w_getX (v := 153) gz_190_37 is_151 rd_10 rfl (by decide) rfl ?_
      refine w_aload_n gz_190_40 rfl ?_
      refine v_getI (j := 7) gz_190_41 rfl is_151 rd_10 rfl (fun v84 ev84 pv84 qv84 => ?_)
      have zv84 := ev84.trans (rfl : h60 151 7 = h60 151 7)
      refine w_iald gz_190_44 is_153 rd_52 (by omega) (by omega) (fun v85 ev85 pv85 qv85 => ?_)
      refine w_iconst gz_190_45 (by decide) ?_
      refine w_icne (t := 74) gz_190_46 rfl (fun u86 => ?_) (fun u86 => ?_)
      ·
        refine w_aload_n gz_190_74 rfl ?_
        refine w_getX (v := 169) gz_190_75 is_151 rd_10 rfl (by decide) rfl ?_
        refine w_iload_n gz_190_78 rfl ?_
        refine w_aload_n gz_190_79 rfl ?_
        refine w_aload_n gz_190_80 rfl ?_
        refine v_getI (j := 27) gz_190_81 rfl is_151 rd_10 rfl (fun v88 ev88 pv88 qv88 => ?_)
        have zv88 := ev88.trans ((my_fr.at frh60 is_151 rfl).trans ((my_up_role fh52 is_151 is_170 rfl).trans ((my_fr.at frh12 is_151 rfl).trans ev4.symm)))
        refine w_iconst gz_190_84 (by decide) ?_
        refine w_isub gz_190_85 ⟨by omega, by omega⟩ ?_
        have ce89 : h60 151 7 = v84 := ev84.symm
        have ce90 : h60 151 27 = v88 := ev88.symm
        refine w_inv (k := 0) (as := [(0, (v88 - 1))]) (r := [(0, x1), (2, 169)]) (x := 151) (ls0 := [(2, 151), (0, (v88 - 1))]) gz_190_86 gm_187 rfl is_151 rd_10 rfl rfl rfl rfl rfl (c_Model_takeNumber2_f0 (d := (d + 1)) (x1 := (v88 - 1)) (by omega) (by omega) (ev81.symm.trans (by omega)) Tok_h60t65 (fun h91 frh91 w92 w93 xp94 Tok_h91t95 => ?_) (fun h96 v97 frh96 w98 w99 w100 w101 w102 xp103 xp104 xp105 xp106 xp107 Tok_h96t108 => ?_))
        ·
          have gh91 : my_fr [(10, 7), (10, 8), (67, -1), (68, -1), (69, -1)] h h91 := my_fr.tr gh60 (frh91.mo rfl)
          have Mq_h91 : Mq h91 wv := Mq_ag (my_ag.fr frh91 rfl) Mq_h60
          have P6_h91 : h91 167 6 = h 167 6 := P6_ag (my_ag.fr frh91 rfl) P6_h60
          show wp l rho (d + 3) 190 89 [(2, 151), (0, x1)] [(0, 0), (0, x1), (2, 169)] h91 Q
          have hi109 : 0 ≤ 0 := by omega
          have hi110 : 0 ≤ 7 := by omega
          refine w_iast gz_190_89 is_169 rd_68 (by omega) (by omega) (by omega) (by omega) (fun h111 fh111 => ?_)
          have gh111 : my_fr [(10, 7), (10, 8), (67, -1), (68, -1), (69, -1)] h h111 := my_fr.up gh91 is_169 fh111 rfl
          have Mq_h111 : Mq h111 wv := Mq_u (a := 169) hwv (by decide) (by omega) fh111 Mq_h91
          have P6_h111 : h111 167 6 = h 167 6 := P6_ag (my_ag.up fh111 is_169 rfl) P6_h91
          have Tok_h111 : Tok h111 := Tok_ag (my_ag.up fh111 is_169 rfl) Tok_h91t95
          have k169 := my_up_self fh111
          have ce112 : h111 151 7 = h91 151 7 := ((my_up_role fh111 is_151 is_169 rfl).trans (rfl : h91 151 7 = h91 151 7))
          have ce113 : h111 151 27 = v88 := ((my_up_role fh111 is_151 is_169 rfl).trans ((my_fr.at frh91 is_151 rfl).trans ev88.symm))
          have a168 : ∀ j : Int, h111 168 j = h2 168 j := fun j => ((my_up_role fh111 is_168 is_169 rfl).trans ((my_fr.at frh91 is_168 rfl).trans ((my_fr.at frh60 is_168 rfl).trans ((my_up_role fh52 is_168 is_170 rfl).trans ((my_fr.at frh12 is_168 rfl).trans (rfl : h2 168 j = h2 168 j))))))
          have a170 : ∀ j : Int, h111 170 j = h52 170 j := fun j => ((my_up_role fh111 is_170 is_169 rfl).trans ((my_fr.at frh91 is_170 rfl).trans ((my_fr.at frh60 is_170 rfl).trans (rfl : h52 170 j = h52 170 j))))
          have a169 : ∀ j : Int, h111 169 j = h111 169 j := fun _ => rfl
          have c114 := ((my_up_role fh111 is_151 is_169 rfl).trans (rfl : h91 151 8 = h91 151 8))
          exact w_vret gz_190_90 gm_190 (k0 h111 (gh111) (by omega) (by omega) (by first | omega | (refine ⟨fun q => ?_, fun q => ?_⟩ <;> first | (rw [a168, k168] at q; omega) | (rw [a170, k170]; omega)) | (refine ⟨fun q => ?_, fun q => ?_, fun q => ?_⟩ <;> first | (exfalso; rw [a168, k168] at q; omega) | (rw [a169, k169]; omega) | (rw [a170, k170]; omega))) Tok_h111 Mq_h111)
        ·
          have gh96 : my_fr [(10, 7), (10, 8), (67, -1), (68, -1), (69, -1)] h h96 := my_fr.tr gh60 (frh96.mo rfl)
          have Mq_h96 : Mq h96 wv := Mq_ag (my_ag.fr frh96 rfl) Mq_h60
          have P6_h96 : h96 167 6 = h 167 6 := P6_ag (my_ag.fr frh96 rfl) P6_h60
          show wp l rho (d + 3) 190 89 [(2, 151), (0, x1)] [(0, v97), (0, x1), (2, 169)] h96 Q
          have hi115 : 0 ≤ v97 := by omega
          have hi116 : v97 ≤ 7 := by omega
          refine w_iast gz_190_89 is_169 rd_68 (by omega) (by omega) (by omega) (by omega) (fun h117 fh117 => ?_)
          have gh117 : my_fr [(10, 7), (10, 8), (67, -1), (68, -1), (69, -1)] h h117 := my_fr.up gh96 is_169 fh117 rfl
          have Mq_h117 : Mq h117 wv := Mq_u (a := 169) hwv (by decide) (by omega) fh117 Mq_h96
          have P6_h117 : h117 167 6 = h 167 6 := P6_ag (my_ag.up fh117 is_169 rfl) P6_h96
          have Tok_h117 : Tok h117 := Tok_ag (my_ag.up fh117 is_169 rfl) Tok_h96t108
          have k169 := my_up_self fh117
          have ce118 : h117 151 7 = (h96 151 7) := ((my_up_role fh117 is_151 is_169 rfl).trans (rfl : h96 151 7 = h96 151 7))
          have ce119 : h117 151 27 = v88 := ((my_up_role fh117 is_151 is_169 rfl).trans ((my_fr.at frh96 is_151 rfl).trans ev88.symm))
          have a168 : ∀ j : Int, h117 168 j = h2 168 j := fun j => ((my_up_role fh117 is_168 is_169 rfl).trans ((my_fr.at frh96 is_168 rfl).trans ((my_fr.at frh60 is_168 rfl).trans ((my_up_role fh52 is_168 is_170 rfl).trans ((my_fr.at frh12 is_168 rfl).trans (rfl : h2 168 j = h2 168 j))))))
          have a170 : ∀ j : Int, h117 170 j = h52 170 j := fun j => ((my_up_role fh117 is_170 is_169 rfl).trans ((my_fr.at frh96 is_170 rfl).trans ((my_fr.at frh60 is_170 rfl).trans (rfl : h52 170 j = h52 170 j))))
          have a169 : ∀ j : Int, h117 169 j = h117 169 j := fun _ => rfl
          have c120 := ((my_up_role fh117 is_151 is_169 rfl).trans (rfl : h96 151 7 = h96 151 7))
          have c121 := ((my_up_role fh117 is_151 is_169 rfl).trans w102)
          exact w_vret gz_190_90 gm_190 (k1 h117 (gh117) (by omega) (by omega) (by omega) (by first | omega | (refine ⟨fun q => ?_, fun q => ?_⟩ <;> first | (rw [a168, k168] at q; omega) | (rw [a170, k170]; omega)) | (refine ⟨fun q => ?_, fun q => ?_, fun q => ?_⟩ <;> first | (exfalso; rw [a168, k168] at q; omega) | (rw [a169, k169]; omega) | (rw [a170, k170]; omega))) (by first | omega | (refine ⟨fun q => ?_, fun q => ?_⟩ <;> first | (rw [a168, k168] at q; omega) | (rw [a170, k170]; omega)) | (refine ⟨fun q => ?_, fun q => ?_, fun q => ?_⟩ <;> first | (exfalso; rw [a168, k168] at q; omega) | (rw [a169, k169]; omega) | (rw [a170, k170]; omega))) (by first | omega | (refine ⟨fun q => ?_, fun q => ?_⟩ <;> first | (rw [a168, k168] at q; omega) | (rw [a170, k170]; omega)) | (refine ⟨fun q => ?_, fun q => ?_, fun q => ?_⟩ <;> first | (exfalso; rw [a168, k168] at q; omega) | (rw [a169, k169]; omega) | (rw [a170, k170]; omega))) Tok_h117 Mq_h117)
      ·
        refine w_aload_n gz_190_49 rfl ?_
        refine w_getX (v := 155) gz_190_50 is_151 rd_10 rfl (by decide) rfl ?_
        refine w_aload_n gz_190_53 rfl ?_
        refine v_getI (j := 7) gz_190_54 rfl is_151 rd_10 rfl (fun v123 ev123 pv123 qv123 => ?_)
        have zv123 := ev123.trans ev84.symm
        refine w_lald gz_190_57 is_155 rd_54 (by omega) (by omega) (fun v124 ev124 pv124 => ?_)
        refine w_aload_n gz_190_58 rfl ?_
        refine w_getX (v := 170) gz_190_59 is_151 rd_10 rfl (by decide) rfl ?_
        refine w_iload_n gz_190_62 rfl ?_
        refine w_iald gz_190_63 is_170 rd_69 (by omega) (by omega) (fun v126 ev126 pv126 qv126 => ?_)
        have zv126 := ev126.trans ((my_fr.at frh60 is_170 rfl).trans (my_up_self fh52))
        refine w_i2l gz_190_64 ?_
        refine w_lcmpE gz_190_65 (fun v127 pv127 qv127 xv127 => ?_)
        refine w_ifne (t := 74) gz_190_66 rfl (fun u128 => ?_) (fun u128 => ?_)
        ·
          refine w_aload_n gz_190_74 rfl ?_
          refine w_getX (v := 169) gz_190_75 is_151 rd_10 rfl (by decide) rfl ?_
          refine w_iload_n gz_190_78 rfl ?_
          refine w_aload_n gz_190_79 rfl ?_
          refine w_aload_n gz_190_80 rfl ?_
          refine v_getI (j := 27) gz_190_81 rfl is_151 rd_10 rfl (fun v130 ev130 pv130 qv130 => ?_)
          have zv130 := ev130.trans ((my_fr.at frh60 is_151 rfl).trans ((my_up_role fh52 is_151 is_170 rfl).trans ((my_fr.at frh12 is_151 rfl).trans ev4.symm)))
          refine w_iconst gz_190_84 (by decide) ?_
          refine w_isub gz_190_85 ⟨by omega, by omega⟩ ?_
          have ce131 : h60 151 7 = v123 := ev123.symm
          have ce132 : h60 151 27 = v130 := ev130.symm
          refine w_inv (k := 0) (as := [(0, (v130 - 1))]) (r := [(0, x1), (2, 169)]) (x := 151) (ls0 := [(2, 151), (0, (v130 - 1))]) gz_190_86 gm_187 rfl is_151 rd_10 rfl rfl rfl rfl rfl (c_Model_takeNumber2_f0 (d := (d + 1)) (x1 := (v130 - 1)) (by omega) (by omega) (ev81.symm.trans (by omega)) Tok_h60t65 (fun h133 frh133 w134 w135 xp136 Tok_h133t137 => ?_) (fun h138 v139 frh138 w140 w141 w142 w143 w144 xp145 xp146 xp147 xp148 xp149 Tok_h138t150 => ?_))
          ·
            have gh133 : my_fr [(10, 7), (10, 8), (67, -1), (68, -1), (69, -1)] h h133 := my_fr.tr gh60 (frh133.mo rfl)
            have Mq_h133 : Mq h133 wv := Mq_ag (my_ag.fr frh133 rfl) Mq_h60
            have P6_h133 : h133 167 6 = h 167 6 := P6_ag (my_ag.fr frh133 rfl) P6_h60
            show wp l rho (d + 3) 190 89 [(2, 151), (0, x1)] [(0, 0), (0, x1), (2, 169)] h133 Q
            have hi151 : 0 ≤ 0 := by omega
            have hi152 : 0 ≤ 7 := by omega
            refine w_iast gz_190_89 is_169 rd_68 (by omega) (by omega) (by omega) (by omega) (fun h153 fh153 => ?_)
            have gh153 : my_fr [(10, 7), (10, 8), (67, -1), (68, -1), (69, -1)] h h153 := my_fr.up gh133 is_169 fh153 rfl
            have Mq_h153 : Mq h153 wv := Mq_u (a := 169) hwv (by decide) (by omega) fh153 Mq_h133
            have P6_h153 : h153 167 6 = h 167 6 := P6_ag (my_ag.up fh153 is_169 rfl) P6_h133
            have Tok_h153 : Tok h153 := Tok_ag (my_ag.up fh153 is_169 rfl) Tok_h133t137
            have k169 := my_up_self fh153
            have ce154 : h153 151 7 = h133 151 7 := ((my_up_role fh153 is_151 is_169 rfl).trans (rfl : h133 151 7 = h133 151 7))
            have ce155 : h153 151 27 = v130 := ((my_up_role fh153 is_151 is_169 rfl).trans ((my_fr.at frh133 is_151 rfl).trans ev130.symm))
            have a168 : ∀ j : Int, h153 168 j = h2 168 j := fun j => ((my_up_role fh153 is_168 is_169 rfl).trans ((my_fr.at frh133 is_168 rfl).trans ((my_fr.at frh60 is_168 rfl).trans ((my_up_role fh52 is_168 is_170 rfl).trans ((my_fr.at frh12 is_168 rfl).trans (rfl : h2 168 j = h2 168 j))))))
            have a170 : ∀ j : Int, h153 170 j = h52 170 j := fun j => ((my_up_role fh153 is_170 is_169 rfl).trans ((my_fr.at frh133 is_170 rfl).trans ((my_fr.at frh60 is_170 rfl).trans (rfl : h52 170 j = h52 170 j))))
            have a169 : ∀ j : Int, h153 169 j = h153 169 j := fun _ => rfl
            have c156 := ((my_up_role fh153 is_151 is_169 rfl).trans (rfl : h133 151 8 = h133 151 8))
            exact w_vret gz_190_90 gm_190 (k0 h153 (gh153) (by omega) (by omega) (by first | omega | (refine ⟨fun q => ?_, fun q => ?_⟩ <;> first | (rw [a168, k168] at q; omega) | (rw [a170, k170]; omega)) | (refine ⟨fun q => ?_, fun q => ?_, fun q => ?_⟩ <;> first | (exfalso; rw [a168, k168] at q; omega) | (rw [a169, k169]; omega) | (rw [a170, k170]; omega))) Tok_h153 Mq_h153)
          ·
            have gh138 : my_fr [(10, 7), (10, 8), (67, -1), (68, -1), (69, -1)] h h138 := my_fr.tr gh60 (frh138.mo rfl)
            have Mq_h138 : Mq h138 wv := Mq_ag (my_ag.fr frh138 rfl) Mq_h60
            have P6_h138 : h138 167 6 = h 167 6 := P6_ag (my_ag.fr frh138 rfl) P6_h60
            show wp l rho (d + 3) 190 89 [(2, 151), (0, x1)] [(0, v139), (0, x1), (2, 169)] h138 Q
            have hi157 : 0 ≤ v139 := by omega
            have hi158 : v139 ≤ 7 := by omega
            refine w_iast gz_190_89 is_169 rd_68 (by omega) (by omega) (by omega) (by omega) (fun h159 fh159 => ?_)
            have gh159 : my_fr [(10, 7), (10, 8), (67, -1), (68, -1), (69, -1)] h h159 := my_fr.up gh138 is_169 fh159 rfl
            have Mq_h159 : Mq h159 wv := Mq_u (a := 169) hwv (by decide) (by omega) fh159 Mq_h138
            have P6_h159 : h159 167 6 = h 167 6 := P6_ag (my_ag.up fh159 is_169 rfl) P6_h138
            have Tok_h159 : Tok h159 := Tok_ag (my_ag.up fh159 is_169 rfl) Tok_h138t150
            have k169 := my_up_self fh159
            have ce160 : h159 151 7 = (h138 151 7) := ((my_up_role fh159 is_151 is_169 rfl).trans (rfl : h138 151 7 = h138 151 7))
            have ce161 : h159 151 27 = v130 := ((my_up_role fh159 is_151 is_169 rfl).trans ((my_fr.at frh138 is_151 rfl).trans ev130.symm))
            have a168 : ∀ j : Int, h159 168 j = h2 168 j := fun j => ((my_up_role fh159 is_168 is_169 rfl).trans ((my_fr.at frh138 is_168 rfl).trans ((my_fr.at frh60 is_168 rfl).trans ((my_up_role fh52 is_168 is_170 rfl).trans ((my_fr.at frh12 is_168 rfl).trans (rfl : h2 168 j = h2 168 j))))))
            have a170 : ∀ j : Int, h159 170 j = h52 170 j := fun j => ((my_up_role fh159 is_170 is_169 rfl).trans ((my_fr.at frh138 is_170 rfl).trans ((my_fr.at frh60 is_170 rfl).trans (rfl : h52 170 j = h52 170 j))))
            have a169 : ∀ j : Int, h159 169 j = h159 169 j := fun _ => rfl
            have c162 := ((my_up_role fh159 is_151 is_169 rfl).trans (rfl : h138 151 7 = h138 151 7))
            have c163 := ((my_up_role fh159 is_151 is_169 rfl).trans w144)
            exact w_vret gz_190_90 gm_190 (k1 h159 (gh159) (by omega) (by omega) (by omega) (by first | omega | (refine ⟨fun q => ?_, fun q => ?_⟩ <;> first | (rw [a168, k168] at q; omega) | (rw [a170, k170]; omega)) | (refine ⟨fun q => ?_, fun q => ?_, fun q => ?_⟩ <;> first | (exfalso; rw [a168, k168] at q; omega) | (rw [a169, k169]; omega) | (rw [a170, k170]; omega))) (by first | omega | (refine ⟨fun q => ?_, fun q => ?_⟩ <;> first | (rw [a168, k168] at q; omega) | (rw [a170, k170]; omega)) | (refine ⟨fun q => ?_, fun q => ?_, fun q => ?_⟩ <;> first | (exfalso; rw [a168, k168] at q; omega) | (rw [a169, k169]; omega) | (rw [a170, k170]; omega))) (by first | omega | (refine ⟨fun q => ?_, fun q => ?_⟩ <;> first | (rw [a168, k168] at q; omega) | (rw [a170, k170]; omega)) | (refine ⟨fun q => ?_, fun q => ?_, fun q => ?_⟩ <;> first | (exfalso; rw [a168, k168] at q; omega) | (rw [a169, k169]; omega) | (rw [a170, k170]; omega))) Tok_h159 Mq_h159)
        ·
          refine w_aload_n gz_190_69 rfl ?_
          refine w_iconst gz_190_70 (by decide) ?_
          have ce164 : h60 151 7 = v123 := ev123.symm
          have ce165 : h60 151 27 = v4 := ((my_fr.at frh60 is_151 rfl).trans ((my_up_role fh52 is_151 is_170 rfl).trans ((my_fr.at frh12 is_151 rfl).trans ev4.symm)))
          refine w_inv (k := 0) (as := [(0, 3)]) (r := []) (x := 151) (ls0 := [(2, 151), (0, 3)]) gz_190_71 gm_178 rfl is_151 rd_10 rfl rfl rfl rfl rfl ?_
          refine w_aload_n gz_178_0 rfl ?_
          refine v_getI (j := 8) gz_178_1 rfl is_151 rd_10 rfl (fun v166 ev166 pv166 qv166 => ?_)
          have zv166 := ev166.trans ev81.symm
          refine w_ifne (t := 25) gz_178_4 rfl (fun u167 => by exfalso; omega) (fun u167 => ?_)
          refine w_aload_n gz_178_7 rfl ?_
          refine w_iload_n gz_178_8 rfl ?_
          refine w_bipush gz_178_9 (by decide) ?_
          refine w_aload_n gz_178_11 rfl ?_
          refine w_getX (v := 154) gz_178_12 is_151 rd_10 rfl (by decide) rfl ?_
          refine w_aload_n gz_178_15 rfl ?_
          refine v_getI (j := 7) gz_178_16 rfl is_151 rd_10 rfl (fun v169 ev169 pv169 qv169 => ?_)
          have zv169 := ev169.trans ev123.symm
          refine w_iald gz_178_19 is_154 rd_53 (by omega) (by omega) (fun v170 ev170 pv170 qv170 => ?_)
          refine w_imul gz_178_20 ⟨by omega, by omega⟩ ?_
          refine w_iadd gz_178_21 ⟨by omega, by omega⟩ ?_
          refine v_putI (j := 8) gz_178_22 rfl is_151 rd_10 rfl (by omega) (by omega) rfl (fun h171 fh171 => ?_)
          have gh171 : my_fr [(10, 7), (10, 8), (67, -1), (68, -1), (69, -1)] h h171 := my_fr.up gh60 is_151 fh171 rfl
          have Mq_h171 : Mq h171 wv := Mq_ag (my_ag.up fh171 is_151 rfl) Mq_h60
          have P6_h171 : h171 167 6 = h 167 6 := P6_ag (my_ag.up fh171 is_151 rfl) P6_h60
          have Tok_h171 : Tok h171 := Tok_ag (my_ag.up fh171 is_151 rfl) Tok_h60t65
          refine w_vret gz_178_25 gm_178 ?_
          show wp l rho (d + 3) 190 74 [(2, 151), (0, x1)] [] h171 Q
          refine w_aload_n gz_190_74 rfl ?_
          refine w_getX (v := 169) gz_190_75 is_151 rd_10 rfl (by decide) rfl ?_
          refine w_iload_n gz_190_78 rfl ?_
          refine w_aload_n gz_190_79 rfl ?_
          refine w_aload_n gz_190_80 rfl ?_
          refine v_getI (j := 27) gz_190_81 rfl is_151 rd_10 rfl (fun v173 ev173 pv173 qv173 => ?_)
          have zv173 := ev173.trans ((my_up_fld fh171 (by decide)).trans ((my_fr.at frh60 is_151 rfl).trans ((my_up_role fh52 is_151 is_170 rfl).trans ((my_fr.at frh12 is_151 rfl).trans ev4.symm))))
          refine w_iconst gz_190_84 (by decide) ?_
          refine w_isub gz_190_85 ⟨by omega, by omega⟩ ?_
          have ce174 : h171 151 7 = v169 := ((my_up_fld fh171 (by decide)).trans ev169.symm)
          have ce175 : h171 151 27 = v173 := ev173.symm
          refine w_inv (k := 0) (as := [(0, (v173 - 1))]) (r := [(0, x1), (2, 169)]) (x := 151) (ls0 := [(2, 151), (0, (v173 - 1))]) gz_190_86 gm_187 rfl is_151 rd_10 rfl rfl rfl rfl rfl (c_Model_takeNumber2_f1 (d := (d + 1)) (x1 := (v173 - 1)) (by omega) (by omega) ((3 + (16 * v170))) ((my_up_self fh171)) (by omega) (by omega) Tok_h171 (fun w176 w177 xp178 Tok_h171t179 => ?_))
          show wp l rho (d + 3) 190 89 [(2, 151), (0, x1)] [(0, 0), (0, x1), (2, 169)] h171 Q
          have hi180 : 0 ≤ 0 := by omega
          have hi181 : 0 ≤ 7 := by omega
          refine w_iast gz_190_89 is_169 rd_68 (by omega) (by omega) (by omega) (by omega) (fun h182 fh182 => ?_)
          have gh182 : my_fr [(10, 7), (10, 8), (67, -1), (68, -1), (69, -1)] h h182 := my_fr.up gh171 is_169 fh182 rfl
          have Mq_h182 : Mq h182 wv := Mq_u (a := 169) hwv (by decide) (by omega) fh182 Mq_h171
          have P6_h182 : h182 167 6 = h 167 6 := P6_ag (my_ag.up fh182 is_169 rfl) P6_h171
          have Tok_h182 : Tok h182 := Tok_ag (my_ag.up fh182 is_169 rfl) Tok_h171t179
          have k169 := my_up_self fh182
          have ce183 : h182 151 7 = v169 := ((my_up_role fh182 is_151 is_169 rfl).trans ((my_up_fld fh171 (by decide)).trans ev169.symm))
          have ce184 : h182 151 27 = v173 := ((my_up_role fh182 is_151 is_169 rfl).trans ev173.symm)
          have a168 : ∀ j : Int, h182 168 j = h2 168 j := fun j => ((my_up_role fh182 is_168 is_169 rfl).trans ((my_up_role fh171 is_168 is_151 rfl).trans ((my_fr.at frh60 is_168 rfl).trans ((my_up_role fh52 is_168 is_170 rfl).trans ((my_fr.at frh12 is_168 rfl).trans (rfl : h2 168 j = h2 168 j))))))
          have a170 : ∀ j : Int, h182 170 j = h52 170 j := fun j => ((my_up_role fh182 is_170 is_169 rfl).trans ((my_up_role fh171 is_170 is_151 rfl).trans ((my_fr.at frh60 is_170 rfl).trans (rfl : h52 170 j = h52 170 j))))
          have a169 : ∀ j : Int, h182 169 j = h182 169 j := fun _ => rfl
          have c185 := ((my_up_role fh182 is_151 is_169 rfl).trans (my_up_self fh171))
          exact w_vret gz_190_90 gm_190 (k0 h182 (gh182) (by omega) (by omega) (by first | omega | (refine ⟨fun q => ?_, fun q => ?_⟩ <;> first | (rw [a168, k168] at q; omega) | (rw [a170, k170]; omega)) | (refine ⟨fun q => ?_, fun q => ?_, fun q => ?_⟩ <;> first | (exfalso; rw [a168, k168] at q; omega) | (rw [a169, k169]; omega) | (rw [a170, k170]; omega))) Tok_h182 Mq_h182)
end MYNModel_isWord_f1
