/-! contracts, printed by wip/gen/gy.py -/
section MYNModel_isWord_f1
theorem c_Model_isWord_f1 {l : Launch} {rho : Nat → Int32} {d : Nat} {h : my_H} {Q : my_H → my_V → Prop} {x1 : Int} (a1 : 0 ≤ x1) (b1 : x1 ≤ 11) (xf : Int) (cf : h 151 8 = xf) (cf1 : 1 ≤ xf) (cf2 : xf ≤ 16005) (k0 : 1 ≤ h 151 8 → h 151 8 ≤ 16005 → Q h (0, 0)) : wp l rho d 177 0 [(2, 151), (0, x1)] [] h Q := by
  refine w_aload_n gz_177_0 rfl ?_
  refine v_getI (j := 8) gz_177_1 rfl is_151 rd_10 rfl (fun v1 ev1 pv1 qv1 => ?_)
  have zv1 := ev1.trans cf
  refine w_ifne (t := 43) gz_177_4 rfl (fun u2 => ?_) (fun u2 => by exfalso; omega)
  refine w_iconst gz_177_43 (by decide) ?_
  have c3 := ev1.symm
  exact w_bret gz_177_44 gm_177 (by omega) (by omega) (k0 (by omega) (by omega))
theorem c_Model_isWord_f0 {l : Launch} {rho : Nat → Int32} {d : Nat} {h : my_H} {Q : my_H → my_V → Prop} {x1 : Int} (a1 : 0 ≤ x1) (b1 : x1 ≤ 11) (cf : h 151 8 = 0) (k0 : h 151 8 = 0 → Q h (0, 0)) (k1 : h 151 8 = 0 → h 153 (h 151 7) = 1 → h 155 (h 151 7) = h 156 x1 → h 151 8 = 0 → Q h (0, 1)) : wp l rho d 177 0 [(2, 151), (0, x1)] [] h Q := by
  refine w_aload_n gz_177_0 rfl ?_
  refine v_getI (j := 8) gz_177_1 rfl is_151 rd_10 rfl (fun v1 ev1 pv1 qv1 => ?_)
  have zv1 := ev1.trans cf
  refine w_ifne (t := 43) gz_177_4 rfl (fun u2 => by exfalso; omega) (fun u2 => ?_)
  refine w_aload_n gz_177_7 rfl ?_
  refine w_getX (v := 153) gz_177_8 is_151 rd_10 rfl (by decide) rfl ?_
  refine w_aload_n gz_177_11 rfl ?_
  refine v_getI (j := 7) gz_177_12 rfl is_151 rd_10 rfl (fun v4 ev4 pv4 qv4 => ?_)
  refine w_iald gz_177_15 is_153 rd_52 (by omega) (by omega) (fun v5 ev5 pv5 qv5 => ?_)
  refine w_iconst gz_177_16 (by decide) ?_
  refine w_icne (t := 43) gz_177_17 rfl (fun u6 => ?_) (fun u6 => ?_)
  ·
    refine w_iconst gz_177_43 (by decide) ?_
    have c7 := ev1.symm
    exact w_bret gz_177_44 gm_177 (by omega) (by omega) (k0 (by omega))
  ·
    refine w_aload_n gz_177_20 rfl ?_
    refine w_getX (v := 155) gz_177_21 is_151 rd_10 rfl (by decide) rfl ?_
    refine w_aload_n gz_177_24 rfl ?_
    refine v_getI (j := 7) gz_177_25 rfl is_151 rd_10 rfl (fun v9 ev9 pv9 qv9 => ?_)
    have zv9 := ev9.trans ev4.symm
    refine w_lald gz_177_28 is_155 rd_54 (by omega) (by omega) (fun v10 ev10 pv10 => ?_)
    refine w_aload_n gz_177_29 rfl ?_
    refine w_getX (v := 156) gz_177_30 is_151 rd_10 rfl (by decide) rfl ?_
    refine w_iload_n gz_177_33 rfl ?_
    refine w_lald gz_177_34 is_156 rd_55 (by omega) (by omega) (fun v12 ev12 pv12 => ?_)
    refine w_lcmpE gz_177_35 (fun v13 pv13 qv13 xv13 => ?_)
    refine w_ifne (t := 43) gz_177_36 rfl (fun u14 => ?_) (fun u14 => ?_)
    ·
      refine w_iconst gz_177_43 (by decide) ?_
      have c15 := ev1.symm
      exact w_bret gz_177_44 gm_177 (by omega) (by omega) (k0 (by omega))
    ·
      refine w_iconst gz_177_39 (by decide) ?_
      refine w_goto (t := 44) gz_177_40 rfl ?_
      have c16 := ev1.symm
      exact w_bret gz_177_44 gm_177 (by omega) (by omega) (k1 (by omega) (by first | omega | (subst_vars; omega) | omega) (by first | omega | (subst_vars; omega) | omega) (by first | omega | (subst_vars; omega) | omega))
theorem c_Model_isWord_fq {l : Launch} {rho : Nat → Int32} {d : Nat} {h : my_H} {Q : my_H → my_V → Prop} {x1 : Int} (a1 : 0 ≤ x1) (b1 : x1 ≤ 11) (k0 : 1 ≤ h 151 8 → h 151 8 ≤ 16005 → Q h (0, 0)) (k1 : h 151 8 = 0 → Q h (0, 0)) (k2 : h 151 8 = 0 → h 153 (h 151 7) = 1 → h 155 (h 151 7) = h 156 x1 → h 151 8 = 0 → Q h (0, 1)) : wp l rho d 177 0 [(2, 151), (0, x1)] [] h Q := by
  refine w_aload_n gz_177_0 rfl ?_
  refine v_getI (j := 8) gz_177_1 rfl is_151 rd_10 rfl (fun v1 ev1 pv1 qv1 => ?_)
  refine w_ifne (t := 43) gz_177_4 rfl (fun u2 => ?_) (fun u2 => ?_)
  ·
    refine w_iconst gz_177_43 (by decide) ?_
    have c3 := ev1.symm
    exact w_bret gz_177_44 gm_177 (by omega) (by omega) (k0 (by omega) (by omega))
  ·
    refine w_aload_n gz_177_7 rfl ?_
    refine w_getX (v := 153) gz_177_8 is_151 rd_10 rfl (by decide) rfl ?_
    refine w_aload_n gz_177_11 rfl ?_
    refine v_getI (j := 7) gz_177_12 rfl is_151 rd_10 rfl (fun v5 ev5 pv5 qv5 => ?_)
    refine w_iald gz_177_15 is_153 rd_52 (by omega) (by omega) (fun v6 ev6 pv6 qv6 => ?_)
    refine w_iconst gz_177_16 (by decide) ?_
    refine w_icne (t := 43) gz_177_17 rfl (fun u7 => ?_) (fun u7 => ?_)
    ·
      refine w_iconst gz_177_43 (by decide) ?_
      have c8 := ev1.symm
      exact w_bret gz_177_44 gm_177 (by omega) (by omega) (k1 (by omega))
    ·
      refine w_aload_n gz_177_20 rfl ?_
      refine w_getX (v := 155) gz_177_21 is_151 rd_10 rfl (by decide) rfl ?_
      refine w_aload_n gz_177_24 rfl ?_
      refine v_getI (j := 7) gz_177_25 rfl is_151 rd_10 rfl (fun v10 ev10 pv10 qv10 => ?_)
      have zv10 := ev10.trans ev5.symm
      refine w_lald gz_177_28 is_155 rd_54 (by omega) (by omega) (fun v11 ev11 pv11 => ?_)
      refine w_aload_n gz_177_29 rfl ?_
      refine w_getX (v := 156) gz_177_30 is_151 rd_10 rfl (by decide) rfl ?_
      refine w_iload_n gz_177_33 rfl ?_
      refine w_lald gz_177_34 is_156 rd_55 (by omega) (by omega) (fun v13 ev13 pv13 => ?_)
      refine w_lcmpE gz_177_35 (fun v14 pv14 qv14 xv14 => ?_)
      refine w_ifne (t := 43) gz_177_36 rfl (fun u15 => ?_) (fun u15 => ?_)
      ·
        refine w_iconst gz_177_43 (by decide) ?_
        have c16 := ev1.symm
        exact w_bret gz_177_44 gm_177 (by omega) (by omega) (k1 (by omega))
      ·
        refine w_iconst gz_177_39 (by decide) ?_
        refine w_goto (t := 44) gz_177_40 rfl ?_
        have c17 := ev1.symm
        exact w_bret gz_177_44 gm_177 (by omega) (by omega) (k2 (by omega) (by first | omega | (subst_vars; omega) | omega) (by first | omega | (subst_vars; omega) | omega) (by first | omega | (subst_vars; omega) | omega))
theorem c_Model_readFew_f0 {l : Launch} {rho : Nat → Int32} {d : Nat} {h : my_H} {Q : my_H → my_V → Prop} {x1 : Int} {wv : Int} (a1 : 36 ≤ x1) (b1 : x1 ≤ 41) (cf : h 151 8 = 0) (hwv : wv ≤ 5) (hwv0 : 0 ≤ wv) (n_Tok : Tok h) (n_Mq : Mq h wv) (hp : x1 = 36 + h 167 6) (k0 : ∀ (h' : my_H), my_fr [(10, 7), (10, 8), (67, -1), (70, -1), (71, -1)] h h' → PaneOk h' x1 → Pk3 h' x1 (h' 151 27) → h 151 7 ≤ h' 151 7 → Tok h' → Mq h' wv → Q h' (9, 0)) : wp l rho (d + 2) 188 0 [(2, 151), (0, x1), (9, 0), (9, 0), (9, 0)] [] h Q := by
  refine v_know (x := 151) (j := 7) (b := 7) rfl is_151 rd_10 rfl (fun k151_7 ek151_7 pk151_7 qk151_7 => ?_)
  refine v_know (x := 151) (j := 27) (b := 27) rfl is_151 rd_10 rfl (fun k151_27 ek151_27 pk151_27 qk151_27 => ?_)
  have J18_0 : ∀ (n : Nat) (p18_0 p18_1 p18_2 : Int) (h18_0 : my_H), my_fr [(10, 7), (10, 8), (67, -1), (70, -1), (71, -1)] h h18_0 → 0 ≤ p18_1 → p18_1 ≤ 1 → 0 ≤ p18_2 → p18_2 ≤ 16005 → h18_0 151 27 = k151_27 → h18_0 151 8 = p18_2 → Tok h18_0 → Mq h18_0 wv → h18_0 167 6 = h 167 6 → h18_0 168 x1 = 3 → 0 ≤ p18_0 ∧ p18_0 ≤ 255 → pop8 p18_0 = h18_0 171 x1 → h 151 7 ≤ h18_0 151 7 → h18_0 151 7 ≤ 1001 → (∀ i : Int, 0 ≤ i → i ≤ 7 → i < h18_0 171 x1 → h18_0 172 (8 * x1 + i) < k151_27) → 1002 - h18_0 151 7 + p18_1 ≤ (n : Int) → wp l rho (d + 2) 188 18 [(2, 151), (0, x1), (0, p18_0), (0, p18_1), (9, 0)] [] h18_0 Q := by
    intro n
    induction n with
    | zero => intro p18_0 p18_1 p18_2 h18_0 gh_18_0 q0_18_0 q1_18_0 q2_18_0 q3_18_0 c151_27_18_0 c151_8_18_0 n_Tok_18_0 n_Mq_18_0 n_P6_18_0 k8_18_0 pm_18_0 pq_18_0 am_18_0 a1_18_0 fw_18_0 hm_18_0; exfalso; omega
    | succ n ih_18_0 =>
      intro p18_0 p18_1 p18_2 h18_0 gh_18_0 q0_18_0 q1_18_0 q2_18_0 q3_18_0 c151_27_18_0 c151_8_18_0 n_Tok_18_0 n_Mq_18_0 n_P6_18_0 k8_18_0 pm_18_0 pq_18_0 am_18_0 a1_18_0 fw_18_0 hm_18_0
      refine w_iload_n gz_188_18 rfl ?_
      refine w_ifeq (t := 169) gz_188_19 rfl (fun u1 => ?_) (fun u1 => ?_)
      ·
        have ce2 : h18_0 151 27 = k151_27 := c151_27_18_0
        have a168 : ∀ j : Int, h18_0 168 j = h18_0 168 j := fun _ => rfl
        have a171 : ∀ j : Int, h18_0 171 j = h18_0 171 j := fun _ => rfl
        have a172 : ∀ j : Int, h18_0 172 j = h18_0 172 j := fun _ => rfl
        exact w_vret gz_188_169 gm_188 (k0 h18_0 (gh_18_0) (by first | omega | (refine ⟨fun q => ?_, fun q => ?_⟩ <;> (rw [a168, k8_18_0] at q; omega)) | (refine ⟨fun q => ?_, fun q => ?_, fun q i i0 i7 il => ?_⟩ <;> first | (exfalso; rw [a168, k8_18_0] at q; omega) | (rw [a171] at il; rw [a172]; have z := fw_18_0 i i0 i7 il; omega)) | omega) (by first | omega | (refine ⟨fun q => ?_, fun q => ?_⟩ <;> (rw [a168, k8_18_0] at q; omega)) | (refine ⟨fun q => ?_, fun q => ?_, fun q i i0 i7 il => ?_⟩ <;> first | (exfalso; rw [a168, k8_18_0] at q; omega) | (rw [a171] at il; rw [a172]; have z := fw_18_0 i i0 i7 il; omega)) | omega) (by first | omega | (refine ⟨fun q => ?_, fun q => ?_⟩ <;> (rw [a168, k8_18_0] at q; omega)) | (refine ⟨fun q => ?_, fun q => ?_, fun q i i0 i7 il => ?_⟩ <;> first | (exfalso; rw [a168, k8_18_0] at q; omega) | (rw [a171] at il; rw [a172]; have z := fw_18_0 i i0 i7 il; omega)) | omega) n_Tok_18_0 n_Mq_18_0)
      ·
        refine w_aload_n gz_188_22 rfl ?_
        refine v_getI (j := 8) gz_188_23 rfl is_151 rd_10 rfl (fun v3 ev3 pv3 qv3 => ?_)
        have zv3 := ev3.trans c151_8_18_0
        refine w_ifne (t := 83) gz_188_26 rfl (fun u4 => ?_) (fun u4 => ?_)
        ·
          refine w_aload_n gz_188_83 rfl ?_
          refine w_aload_n gz_188_84 rfl ?_
          refine v_getI (j := 27) gz_188_85 rfl is_151 rd_10 rfl (fun v5 ev5 pv5 qv5 => ?_)
          have zv5 := ev5.trans c151_27_18_0
          refine w_iconst gz_188_88 (by decide) ?_
          refine w_isub gz_188_89 ⟨by omega, by omega⟩ ?_
          have ce6 : h18_0 151 27 = v5 := ev5.symm
          refine w_inv (k := 0) (as := [(0, (v5 - 1))]) (r := []) (x := 151) (ls0 := [(2, 151), (0, (v5 - 1))]) gz_188_90 gm_187 rfl is_151 rd_10 rfl rfl rfl rfl rfl (c_Model_takeNumber2_f1 (d := d) (x1 := (v5 - 1)) (by omega) (by omega) (v3) (ev3.symm) (by omega) (by omega) n_Tok_18_0 (fun w7 w8 xp9 Tok_h18_0t10 => ?_))
          show wp l rho (d + 2) 188 93 [(2, 151), (0, x1), (0, p18_0), (0, p18_1), (9, 0)] [(0, 0)] h18_0 Q
          refine w_istore (ls' := [(2, 151), (0, x1), (0, p18_0), (0, p18_1), (0, 0)]) gz_188_93 gm_188 rfl rfl rfl ?_
          refine w_aload_n gz_188_95 rfl ?_
          refine v_getI (j := 8) gz_188_96 rfl is_151 rd_10 rfl (fun v11 ev11 pv11 qv11 => ?_)
          have zv11 := ev11.trans ev3.symm
          refine w_ifne (t := 106) gz_188_99 rfl (fun u12 => ?_) (fun u12 => by exfalso; omega)
          refine w_iconst gz_188_106 (by decide) ?_
          refine w_istore_n (ls' := [(2, 151), (0, x1), (0, p18_0), (0, 0), (0, 0)]) gz_188_107 gm_188 rfl rfl rfl ?_
          refine w_iload_n gz_188_108 rfl ?_
          refine w_ifeq (t := 166) gz_188_109 rfl (fun u13 => ?_) (fun u13 => by exfalso; omega)
          refine w_goto (t := 18) gz_188_166 rfl ?_
          have a168 : ∀ j : Int, h18_0 168 j = h18_0 168 j := fun _ => rfl
          have a171 : ∀ j : Int, h18_0 171 j = h18_0 171 j := fun _ => rfl
          have a172 : ∀ j : Int, h18_0 172 j = h18_0 172 j := fun _ => rfl
          refine w_weak (ls' := [(2, 151), (0, x1), (0, p18_0), (0, 0), (9, 0)]) (wk_e (wk_e (wk_e (wk_e (wk_9 wk_n))))) ?_
          exact ih_18_0 (p18_0) (0) (v11) h18_0 (gh_18_0) (by omega) (by omega) (by omega) (by omega) (ev5.symm.trans (by omega)) (ev11.symm.trans (by omega)) Tok_h18_0t10 n_Mq_18_0 n_P6_18_0 (by rw [a168]; first | exact k168 | exact k8_18_0) (by omega) (by first | (rw [a171]; exact pq_18_0) | (rw [a171, k13]; exact pop8_0) | (rw [a171, k46]; omega) | omega) (by omega) (by omega) (by first | (intro i i0 i7 il; exfalso; rw [a171, k13] at il; omega) | (intro i i0 i7 il; rw [a172]; exact fw_18_0 i i0 i7 (by have z := a171 x1; omega)) | exact (fun i i0 i7 il => fw2 i i0 i7 (by omega)) | omega) (by omega)
        ·
          refine w_aload_n gz_188_29 rfl ?_
          refine w_getX (v := 153) gz_188_30 is_151 rd_10 rfl (by decide) rfl ?_
          refine w_aload_n gz_188_33 rfl ?_
          refine v_getI (j := 7) gz_188_34 rfl is_151 rd_10 rfl (fun v15 ev15 pv15 qv15 => ?_)
          refine w_iald gz_188_37 is_153 rd_52 (by omega) (by omega) (fun v16 ev16 pv16 qv16 => ?_)
          refine w_iconst gz_188_38 (by decide) ?_
          refine w_icne (t := 83) gz_188_39 rfl (fun u17 => ?_) (fun u17 => ?_)
          ·
            refine w_aload_n gz_188_83 rfl ?_
            refine w_aload_n gz_188_84 rfl ?_
            refine v_getI (j := 27) gz_188_85 rfl is_151 rd_10 rfl (fun v18 ev18 pv18 qv18 => ?_)
            have zv18 := ev18.trans c151_27_18_0
            refine w_iconst gz_188_88 (by decide) ?_
            refine w_isub gz_188_89 ⟨by omega, by omega⟩ ?_
            have ce19 : h18_0 151 7 = v15 := ev15.symm
            have ce20 : h18_0 151 27 = v18 := ev18.symm
            refine w_inv (k := 0) (as := [(0, (v18 - 1))]) (r := []) (x := 151) (ls0 := [(2, 151), (0, (v18 - 1))]) gz_188_90 gm_187 rfl is_151 rd_10 rfl rfl rfl rfl rfl (c_Model_takeNumber2_f0 (d := d) (x1 := (v18 - 1)) (by omega) (by omega) (ev3.symm.trans (by omega)) n_Tok_18_0 (fun h21 frh21 w22 w23 xp24 Tok_h21t25 => ?_) (fun h26 v27 frh26 w28 w29 w30 w31 w32 xp33 xp34 xp35 xp36 xp37 Tok_h26t38 => ?_))
            ·
              have gh21 : my_fr [(10, 7), (10, 8), (67, -1), (70, -1), (71, -1)] h h21 := my_fr.tr gh_18_0 (frh21.mo rfl)
              have Mq_h21 : Mq h21 wv := Mq_ag (my_ag.fr frh21 rfl) n_Mq_18_0
              have P6_h21 : h21 167 6 = h 167 6 := P6_ag (my_ag.fr frh21 rfl) n_P6_18_0
              show wp l rho (d + 2) 188 93 [(2, 151), (0, x1), (0, p18_0), (0, p18_1), (9, 0)] [(0, 0)] h21 Q
              refine w_istore (ls' := [(2, 151), (0, x1), (0, p18_0), (0, p18_1), (0, 0)]) gz_188_93 gm_188 rfl rfl rfl ?_
              refine w_aload_n gz_188_95 rfl ?_
              refine v_getI (j := 8) gz_188_96 rfl is_151 rd_10 rfl (fun v39 ev39 pv39 qv39 => ?_)
              have zv39 := ev39.trans (rfl : h21 151 8 = h21 151 8)
              refine w_ifne (t := 106) gz_188_99 rfl (fun u40 => ?_) (fun u40 => by exfalso; omega)
              refine w_iconst gz_188_106 (by decide) ?_
              refine w_istore_n (ls' := [(2, 151), (0, x1), (0, p18_0), (0, 0), (0, 0)]) gz_188_107 gm_188 rfl rfl rfl ?_
              refine w_iload_n gz_188_108 rfl ?_
              refine w_ifeq (t := 166) gz_188_109 rfl (fun u41 => ?_) (fun u41 => by exfalso; omega)
              refine w_goto (t := 18) gz_188_166 rfl ?_
              have a168 : ∀ j : Int, h21 168 j = h18_0 168 j := fun j => ((my_fr.at frh21 is_168 rfl).trans (rfl : h18_0 168 j = h18_0 168 j))
              have a171 : ∀ j : Int, h21 171 j = h18_0 171 j := fun j => ((my_fr.at frh21 is_171 rfl).trans (rfl : h18_0 171 j = h18_0 171 j))
              have a172 : ∀ j : Int, h21 172 j = h18_0 172 j := fun j => ((my_fr.at frh21 is_172 rfl).trans (rfl : h18_0 172 j = h18_0 172 j))
              refine w_weak (ls' := [(2, 151), (0, x1), (0, p18_0), (0, 0), (9, 0)]) (wk_e (wk_e (wk_e (wk_e (wk_9 wk_n))))) ?_
              exact ih_18_0 (p18_0) (0) (v39) h21 (gh21) (by omega) (by omega) (by omega) (by omega) (((my_fr.at frh21 is_151 rfl).trans ev18.symm).trans (by omega)) (ev39.symm.trans (by omega)) Tok_h21t25 Mq_h21 P6_h21 (by rw [a168]; first | exact k168 | exact k8_18_0) (by omega) (by first | (rw [a171]; exact pq_18_0) | (rw [a171, k13]; exact pop8_0) | (rw [a171, k46]; omega) | omega) (by omega) (by omega) (by first | (intro i i0 i7 il; exfalso; rw [a171, k13] at il; omega) | (intro i i0 i7 il; rw [a172]; exact fw_18_0 i i0 i7 (by have z := a171 x1; omega)) | exact (fun i i0 i7 il => fw2 i i0 i7 (by omega)) | omega) (by omega)
            ·
              have gh26 : my_fr [(10, 7), (10, 8), (67, -1), (70, -1), (71, -1)] h h26 := my_fr.tr gh_18_0 (frh26.mo rfl)
              have Mq_h26 : Mq h26 wv := Mq_ag (my_ag.fr frh26 rfl) n_Mq_18_0
              have P6_h26 : h26 167 6 = h 167 6 := P6_ag (my_ag.fr frh26 rfl) n_P6_18_0
              show wp l rho (d + 2) 188 93 [(2, 151), (0, x1), (0, p18_0), (0, p18_1), (9, 0)] [(0, v27)] h26 Q
              refine w_istore (ls' := [(2, 151), (0, x1), (0, p18_0), (0, p18_1), (0, v27)]) gz_188_93 gm_188 rfl rfl rfl ?_
              refine w_aload_n gz_188_95 rfl ?_
              refine v_getI (j := 8) gz_188_96 rfl is_151 rd_10 rfl (fun v42 ev42 pv42 qv42 => ?_)
              have zv42 := ev42.trans w32
              refine w_ifne (t := 106) gz_188_99 rfl (fun u43 => by exfalso; omega) (fun u43 => ?_)
              refine w_iconst gz_188_102 (by decide) ?_
              refine w_goto (t := 107) gz_188_103 rfl ?_
              refine w_istore_n (ls' := [(2, 151), (0, x1), (0, p18_0), (0, 1), (0, v27)]) gz_188_107 gm_188 rfl rfl rfl ?_
              refine w_iload_n gz_188_108 rfl ?_
              refine w_ifeq (t := 166) gz_188_109 rfl (fun u44 => by exfalso; omega) (fun u44 => ?_)
              refine w_iload_n gz_188_112 rfl ?_
              refine w_iconst gz_188_113 (by decide) ?_
              refine w_iload gz_188_114 rfl ?_
              refine w_ishlX gz_188_116 (fun v45 ev45 pv45 qv45 => ?_)
              refine w_iorX gz_188_117 (fun v46 ev46 pv46 qv46 => ?_)
              have e17 : v46 = bor p18_0 (bsl 1 v27) := by subst_vars; rfl
              have pp : pop8 v46 = pop8 p18_0 + 1 ∧ pop8 p18_0 ≤ 7 ∧ 0 ≤ v46 ∧ v46 ≤ 255 := by first | (have yz : v27 = vz := (by omega); rw [yz] at e17; have z := pop8_add pm_18_0.1 pm_18_0.2 (v := vz) (by omega) (by omega) (by omega); rw [← e17] at z; exact z) | (exfalso; (try clear k0); (try clear k1); grind) | omega
              refine w_istore_n (ls' := [(2, 151), (0, x1), (0, v46), (0, 1), (0, v27)]) gz_188_118 gm_188 rfl rfl rfl ?_
              refine w_aload_n gz_188_119 rfl ?_
              refine w_getX (v := 172) gz_188_120 is_151 rd_10 rfl (by decide) rfl ?_
              refine w_bipush gz_188_123 (by decide) ?_
              refine w_iload_n gz_188_125 rfl ?_
              refine w_imul gz_188_126 ⟨by omega, by omega⟩ ?_
              refine w_aload_n gz_188_127 rfl ?_
              refine w_getX (v := 171) gz_188_128 is_151 rd_10 rfl (by decide) rfl ?_
              refine w_iload_n gz_188_131 rfl ?_
              refine w_iald gz_188_132 is_171 rd_70 (by omega) (by omega) (fun v49 ev49 pv49 qv49 => ?_)
              have b171 : ∀ j : Int, h26 171 j = h18_0 171 j := fun j => ((my_fr.at frh26 is_171 rfl).trans (rfl : h18_0 171 j = h18_0 171 j))
              have f7 : v49 ≤ 7 := by have q := b171 x1; omega
              obtain ⟨vm, em⟩ : ∃ vm : Int, vm = v49 := ⟨_, rfl⟩
              have c172 : ∀ j : Int, h26 172 j = h18_0 172 j := fun j => ((my_fr.at frh26 is_172 rfl).trans (rfl : h18_0 172 j = h18_0 172 j))
              refine w_iadd gz_188_133 ⟨by omega, by omega⟩ ?_
              refine w_iload gz_188_134 rfl ?_
              have hi50 : 0 ≤ v27 := by omega
              have hi51 : v27 ≤ 7 := by omega
              have hi52 : 0 ≤ ((8 * x1) + v49) := by omega
              have hi53 : ((8 * x1) + v49) ≤ 335 := by omega
              refine w_iast gz_188_136 is_172 rd_71 (by omega) (by omega) (by omega) (by omega) (fun h54 fh54 => ?_)
              have gh54 : my_fr [(10, 7), (10, 8), (67, -1), (70, -1), (71, -1)] h h54 := my_fr.up gh26 is_172 fh54 rfl
              have Mq_h54 : Mq h54 wv := Mq_v (a := 172) hwv (by decide) (by omega) fh54 Mq_h26
              have P6_h54 : h54 167 6 = h 167 6 := P6_ag (my_ag.up fh54 is_172 rfl) P6_h26
              have Tok_h54 : Tok h54 := Tok_ag (my_ag.up fh54 is_172 rfl) Tok_h26t38
              have f36 := fh54
              have k36 : h54 172 (8 * x1 + vm) = v27 := by rw [show 8 * x1 + vm = _ from by rw [em]]; exact my_up_self fh54
              refine w_aload_n gz_188_137 rfl ?_
              refine w_getX (v := 171) gz_188_138 is_151 rd_10 rfl (by decide) rfl ?_
              refine w_iload_n gz_188_141 rfl ?_
              refine w_dup2 gz_188_142 rfl rfl ?_
              refine w_iald gz_188_143 is_171 rd_70 (by omega) (by omega) (fun v56 ev56 pv56 qv56 => ?_)
              have zv56 := ev56.trans ((my_up_role fh54 is_171 is_172 rfl).trans ev49.symm)
              have c171 : ∀ j : Int, h54 171 j = h18_0 171 j := fun j => ((my_up_role fh54 is_171 is_172 rfl).trans ((my_fr.at frh26 is_171 rfl).trans (rfl : h18_0 171 j = h18_0 171 j)))
              have f8 : v56 ≤ 7 := by have q := c171 x1; omega
              refine w_iconst gz_188_144 (by decide) ?_
              refine w_iadd gz_188_145 ⟨by omega, by omega⟩ ?_
              have hi57 : 0 ≤ (v56 + 1) := by omega
              have hi58 : (v56 + 1) ≤ 8 := by omega
              refine w_iast gz_188_146 is_171 rd_70 (by omega) (by omega) (by omega) (by omega) (fun h59 fh59 => ?_)
              have gh59 : my_fr [(10, 7), (10, 8), (67, -1), (70, -1), (71, -1)] h h59 := my_fr.up gh54 is_171 fh59 rfl
              have Mq_h59 : Mq h59 wv := Mq_u (a := 171) hwv (by decide) (by omega) fh59 Mq_h54
              have P6_h59 : h59 167 6 = h 167 6 := P6_ag (my_ag.up fh59 is_171 rfl) P6_h54
              have Tok_h59 : Tok h59 := Tok_ag (my_ag.up fh59 is_171 rfl) Tok_h54
              have k46 := my_up_self fh59
              have z46 := b171 x1
              have z47 := c171 x1
              have e46 : h59 171 x1 = vm + 1 := by have z3 := c171 x1; have z2 := b171 x1; omega
              have d172 : ∀ j : Int, h59 172 j = h54 172 j := fun j => ((my_up_role fh59 is_172 is_171 rfl).trans (rfl : h54 172 j = h54 172 j))
              have fw2 : ∀ i : Int, 0 ≤ i → i ≤ 7 → i < vm + 1 → h59 172 (8 * x1 + i) < k151_27 := fun i i0 i7 il => by
                rw [d172]
                by_cases q : i = vm
                · rw [q, k36]; omega
                · rw [my_up_ne f36 (by omega), c172]; exact fw_18_0 i i0 i7 (by have z2 := b171 x1; omega)
              refine w_aload_n gz_188_147 rfl ?_
              refine w_getX (v := 153) gz_188_148 is_151 rd_10 rfl (by decide) rfl ?_
              refine w_aload_n gz_188_151 rfl ?_
              refine v_getI (j := 7) gz_188_152 rfl is_151 rd_10 rfl (fun v61 ev61 pv61 qv61 => ?_)
              have zv61 := ev61.trans ((my_up_role fh59 is_151 is_171 rfl).trans ((my_up_role fh54 is_151 is_172 rfl).trans (rfl : h26 151 7 = h26 151 7)))
              refine w_iald gz_188_155 is_153 rd_52 (by omega) (by omega) (fun v62 ev62 pv62 qv62 => ?_)
              refine w_iconst gz_188_156 (by decide) ?_
              refine w_icne (t := 164) gz_188_157 rfl (fun u63 => ?_) (fun u63 => ?_)
              ·
                refine w_iconst gz_188_164 (by decide) ?_
                refine w_istore_n (ls' := [(2, 151), (0, x1), (0, v46), (0, 0), (0, v27)]) gz_188_165 gm_188 rfl rfl rfl ?_
                refine w_goto (t := 18) gz_188_166 rfl ?_
                have ce64 : h59 151 7 = v61 := ev61.symm
                have a168 : ∀ j : Int, h59 168 j = h18_0 168 j := fun j => ((my_up_role fh59 is_168 is_171 rfl).trans ((my_up_role fh54 is_168 is_172 rfl).trans ((my_fr.at frh26 is_168 rfl).trans (rfl : h18_0 168 j = h18_0 168 j))))
                have a171 : ∀ j : Int, h59 171 j = h59 171 j := fun j => rfl
                have a172 : ∀ j : Int, h59 172 j = h54 172 j := fun j => ((my_up_role fh59 is_172 is_171 rfl).trans (rfl : h54 172 j = h54 172 j))
                refine w_weak (ls' := [(2, 151), (0, x1), (0, v46), (0, 0), (9, 0)]) (wk_e (wk_e (wk_e (wk_e (wk_9 wk_n))))) ?_
                exact ih_18_0 (v46) (0) (v42) h59 (gh59) (by omega) (by omega) (by omega) (by omega) (((my_up_role fh59 is_151 is_171 rfl).trans ((my_up_role fh54 is_151 is_172 rfl).trans ((my_fr.at frh26 is_151 rfl).trans ev18.symm))).trans (by omega)) (((my_up_role fh59 is_151 is_171 rfl).trans ((my_up_role fh54 is_151 is_172 rfl).trans ev42.symm)).trans (by omega)) Tok_h59 Mq_h59 P6_h59 (by rw [a168]; first | exact k168 | exact k8_18_0) (by omega) (by first | (rw [a171]; exact pq_18_0) | (rw [a171, k13]; exact pop8_0) | (rw [a171, k46]; omega) | omega) (by omega) (by omega) (by first | (intro i i0 i7 il; exfalso; rw [a171, k13] at il; omega) | (intro i i0 i7 il; rw [a172]; exact fw_18_0 i i0 i7 (by have z := a171 x1; omega)) | exact (fun i i0 i7 il => fw2 i i0 i7 (by omega)) | omega) (by omega)
              ·
                refine w_iconst gz_188_160 (by decide) ?_
                refine w_goto (t := 165) gz_188_161 rfl ?_
                refine w_istore_n (ls' := [(2, 151), (0, x1), (0, v46), (0, 1), (0, v27)]) gz_188_165 gm_188 rfl rfl rfl ?_
                refine w_goto (t := 18) gz_188_166 rfl ?_
                have ce65 : h59 151 7 = v61 := ev61.symm
                have a168 : ∀ j : Int, h59 168 j = h18_0 168 j := fun j => ((my_up_role fh59 is_168 is_171 rfl).trans ((my_up_role fh54 is_168 is_172 rfl).trans ((my_fr.at frh26 is_168 rfl).trans (rfl : h18_0 168 j = h18_0 168 j))))
                have a171 : ∀ j : Int, h59 171 j = h59 171 j := fun j => rfl
                have a172 : ∀ j : Int, h59 172 j = h54 172 j := fun j => ((my_up_role fh59 is_172 is_171 rfl).trans (rfl : h54 172 j = h54 172 j))
                refine w_weak (ls' := [(2, 151), (0, x1), (0, v46), (0, 1), (9, 0)]) (wk_e (wk_e (wk_e (wk_e (wk_9 wk_n))))) ?_
                exact ih_18_0 (v46) (1) (v42) h59 (gh59) (by omega) (by omega) (by omega) (by omega) (((my_up_role fh59 is_151 is_171 rfl).trans ((my_up_role fh54 is_151 is_172 rfl).trans ((my_fr.at frh26 is_151 rfl).trans ev18.symm))).trans (by omega)) (((my_up_role fh59 is_151 is_171 rfl).trans ((my_up_role fh54 is_151 is_172 rfl).trans ev42.symm)).trans (by omega)) Tok_h59 Mq_h59 P6_h59 (by rw [a168]; first | exact k168 | exact k8_18_0) (by omega) (by first | (rw [a171]; exact pq_18_0) | (rw [a171, k13]; exact pop8_0) | (rw [a171, k46]; omega) | omega) (by omega) (by omega) (by first | (intro i i0 i7 il; exfalso; rw [a171, k13] at il; omega) | (intro i i0 i7 il; rw [a172]; exact fw_18_0 i i0 i7 (by have z := a171 x1; omega)) | exact (fun i i0 i7 il => fw2 i i0 i7 (by omega)) | omega) (by omega)
          ·
            refine w_aload_n gz_188_42 rfl ?_
            refine w_getX (v := 155) gz_188_43 is_151 rd_10 rfl (by decide) rfl ?_
            refine w_aload_n gz_188_46 rfl ?_
            refine v_getI (j := 7) gz_188_47 rfl is_151 rd_10 rfl (fun v67 ev67 pv67 qv67 => ?_)
            have zv67 := ev67.trans ev15.symm
            refine w_lald gz_188_50 is_155 rd_54 (by omega) (by omega) (fun v68 ev68 pv68 => ?_)
            refine w_aload_n gz_188_51 rfl ?_
            refine v_getI (j := 27) gz_188_52 rfl is_151 rd_10 rfl (fun v69 ev69 pv69 qv69 => ?_)
            have zv69 := ev69.trans c151_27_18_0
            refine w_i2l gz_188_55 ?_
            refine w_lcmpE gz_188_56 (fun v70 pv70 qv70 xv70 => ?_)
            refine w_ifge (t := 83) gz_188_57 rfl (fun u71 => ?_) (fun u71 => ?_)
            ·
              refine w_aload_n gz_188_83 rfl ?_
              refine w_aload_n gz_188_84 rfl ?_
              refine v_getI (j := 27) gz_188_85 rfl is_151 rd_10 rfl (fun v72 ev72 pv72 qv72 => ?_)
              have zv72 := ev72.trans ev69.symm
              refine w_iconst gz_188_88 (by decide) ?_
              refine w_isub gz_188_89 ⟨by omega, by omega⟩ ?_
              have ce73 : h18_0 151 7 = v67 := ev67.symm
              have ce74 : h18_0 151 27 = v72 := ev72.symm
              refine w_inv (k := 0) (as := [(0, (v72 - 1))]) (r := []) (x := 151) (ls0 := [(2, 151), (0, (v72 - 1))]) gz_188_90 gm_187 rfl is_151 rd_10 rfl rfl rfl rfl rfl (c_Model_takeNumber2_f0 (d := d) (x1 := (v72 - 1)) (by omega) (by omega) (ev3.symm.trans (by omega)) n_Tok_18_0 (fun h75 frh75 w76 w77 xp78 Tok_h75t79 => ?_) (fun h80 v81 frh80 w82 w83 w84 w85 w86 xp87 xp88 xp89 xp90 xp91 Tok_h80t92 => ?_))
              ·
                have gh75 : my_fr [(10, 7), (10, 8), (67, -1), (70, -1), (71, -1)] h h75 := my_fr.tr gh_18_0 (frh75.mo rfl)
                have Mq_h75 : Mq h75 wv := Mq_ag (my_ag.fr frh75 rfl) n_Mq_18_0
                have P6_h75 : h75 167 6 = h 167 6 := P6_ag (my_ag.fr frh75 rfl) n_P6_18_0
                show wp l rho (d + 2) 188 93 [(2, 151), (0, x1), (0, p18_0), (0, p18_1), (9, 0)] [(0, 0)] h75 Q
                refine w_istore (ls' := [(2, 151), (0, x1), (0, p18_0), (0, p18_1), (0, 0)]) gz_188_93 gm_188 rfl rfl rfl ?_
                refine w_aload_n gz_188_95 rfl ?_
                refine v_getI (j := 8) gz_188_96 rfl is_151 rd_10 rfl (fun v93 ev93 pv93 qv93 => ?_)
                have zv93 := ev93.trans (rfl : h75 151 8 = h75 151 8)
                refine w_ifne (t := 106) gz_188_99 rfl (fun u94 => ?_) (fun u94 => by exfalso; omega)
                refine w_iconst gz_188_106 (by decide) ?_
                refine w_istore_n (ls' := [(2, 151), (0, x1), (0, p18_0), (0, 0), (0, 0)]) gz_188_107 gm_188 rfl rfl rfl ?_
                refine w_iload_n gz_188_108 rfl ?_
                refine w_ifeq (t := 166) gz_188_109 rfl (fun u95 => ?_) (fun u95 => by exfalso; omega)
                refine w_goto (t := 18) gz_188_166 rfl ?_
                have a168 : ∀ j : Int, h75 168 j = h18_0 168 j := fun j => ((my_fr.at frh75 is_168 rfl).trans (rfl : h18_0 168 j = h18_0 168 j))
                have a171 : ∀ j : Int, h75 171 j = h18_0 171 j := fun j => ((my_fr.at frh75 is_171 rfl).trans (rfl : h18_0 171 j = h18_0 171 j))
                have a172 : ∀ j : Int, h75 172 j = h18_0 172 j := fun j => ((my_fr.at frh75 is_172 rfl).trans (rfl : h18_0 172 j = h18_0 172 j))
                refine w_weak (ls' := [(2, 151), (0, x1), (0, p18_0), (0, 0), (9, 0)]) (wk_e (wk_e (wk_e (wk_e (wk_9 wk_n))))) ?_
                exact ih_18_0 (p18_0) (0) (v93) h75 (gh75) (by omega) (by omega) (by omega) (by omega) (((my_fr.at frh75 is_151 rfl).trans ev72.symm).trans (by omega)) (ev93.symm.trans (by omega)) Tok_h75t79 Mq_h75 P6_h75 (by rw [a168]; first | exact k168 | exact k8_18_0) (by omega) (by first | (rw [a171]; exact pq_18_0) | (rw [a171, k13]; exact pop8_0) | (rw [a171, k46]; omega) | omega) (by omega) (by omega) (by first | (intro i i0 i7 il; exfalso; rw [a171, k13] at il; omega) | (intro i i0 i7 il; rw [a172]; exact fw_18_0 i i0 i7 (by have z := a171 x1; omega)) | exact (fun i i0 i7 il => fw2 i i0 i7 (by omega)) | omega) (by omega)
              ·
                have gh80 : my_fr [(10, 7), (10, 8), (67, -1), (70, -1), (71, -1)] h h80 := my_fr.tr gh_18_0 (frh80.mo rfl)
                have Mq_h80 : Mq h80 wv := Mq_ag (my_ag.fr frh80 rfl) n_Mq_18_0
                have P6_h80 : h80 167 6 = h 167 6 := P6_ag (my_ag.fr frh80 rfl) n_P6_18_0
                show wp l rho (d + 2) 188 93 [(2, 151), (0, x1), (0, p18_0), (0, p18_1), (9, 0)] [(0, v81)] h80 Q
                refine w_istore (ls' := [(2, 151), (0, x1), (0, p18_0), (0, p18_1), (0, v81)]) gz_188_93 gm_188 rfl rfl rfl ?_
                refine w_aload_n gz_188_95 rfl ?_
                refine v_getI (j := 8) gz_188_96 rfl is_151 rd_10 rfl (fun v96 ev96 pv96 qv96 => ?_)
                have zv96 := ev96.trans w86
                refine w_ifne (t := 106) gz_188_99 rfl (fun u97 => by exfalso; omega) (fun u97 => ?_)
                refine w_iconst gz_188_102 (by decide) ?_
                refine w_goto (t := 107) gz_188_103 rfl ?_
                refine w_istore_n (ls' := [(2, 151), (0, x1), (0, p18_0), (0, 1), (0, v81)]) gz_188_107 gm_188 rfl rfl rfl ?_
                refine w_iload_n gz_188_108 rfl ?_
                refine w_ifeq (t := 166) gz_188_109 rfl (fun u98 => by exfalso; omega) (fun u98 => ?_)
                refine w_iload_n gz_188_112 rfl ?_
                refine w_iconst gz_188_113 (by decide) ?_
                refine w_iload gz_188_114 rfl ?_
                refine w_ishlX gz_188_116 (fun v99 ev99 pv99 qv99 => ?_)
                refine w_iorX gz_188_117 (fun v100 ev100 pv100 qv100 => ?_)
                have e17 : v100 = bor p18_0 (bsl 1 v81) := by subst_vars; rfl
                have pp : pop8 v100 = pop8 p18_0 + 1 ∧ pop8 p18_0 ≤ 7 ∧ 0 ≤ v100 ∧ v100 ≤ 255 := by first | (have yz : v81 = vz := (by omega); rw [yz] at e17; have z := pop8_add pm_18_0.1 pm_18_0.2 (v := vz) (by omega) (by omega) (by omega); rw [← e17] at z; exact z) | (exfalso; (try clear k0); (try clear k1); grind) | omega
                refine w_istore_n (ls' := [(2, 151), (0, x1), (0, v100), (0, 1), (0, v81)]) gz_188_118 gm_188 rfl rfl rfl ?_
                refine w_aload_n gz_188_119 rfl ?_
                refine w_getX (v := 172) gz_188_120 is_151 rd_10 rfl (by decide) rfl ?_
                refine w_bipush gz_188_123 (by decide) ?_
                refine w_iload_n gz_188_125 rfl ?_
                refine w_imul gz_188_126 ⟨by omega, by omega⟩ ?_
                refine w_aload_n gz_188_127 rfl ?_
                refine w_getX (v := 171) gz_188_128 is_151 rd_10 rfl (by decide) rfl ?_
                refine w_iload_n gz_188_131 rfl ?_
                refine w_iald gz_188_132 is_171 rd_70 (by omega) (by omega) (fun v103 ev103 pv103 qv103 => ?_)
                have b171 : ∀ j : Int, h80 171 j = h18_0 171 j := fun j => ((my_fr.at frh80 is_171 rfl).trans (rfl : h18_0 171 j = h18_0 171 j))
                have f7 : v103 ≤ 7 := by have q := b171 x1; omega
                obtain ⟨vm, em⟩ : ∃ vm : Int, vm = v103 := ⟨_, rfl⟩
                have c172 : ∀ j : Int, h80 172 j = h18_0 172 j := fun j => ((my_fr.at frh80 is_172 rfl).trans (rfl : h18_0 172 j = h18_0 172 j))
                refine w_iadd gz_188_133 ⟨by omega, by omega⟩ ?_
                refine w_iload gz_188_134 rfl ?_
                have hi104 : 0 ≤ v81 := by omega
                have hi105 : v81 ≤ 7 := by omega
                have hi106 : 0 ≤ ((8 * x1) + v103) := by omega
                have hi107 : ((8 * x1) + v103) ≤ 335 := by omega
                refine w_iast gz_188_136 is_172 rd_71 (by omega) (by omega) (by omega) (by omega) (fun h108 fh108 => ?_)
                have gh108 : my_fr [(10, 7), (10, 8), (67, -1), (70, -1), (71, -1)] h h108 := my_fr.up gh80 is_172 fh108 rfl
                have Mq_h108 : Mq h108 wv := Mq_v (a := 172) hwv (by decide) (by omega) fh108 Mq_h80
                have P6_h108 : h108 167 6 = h 167 6 := P6_ag (my_ag.up fh108 is_172 rfl) P6_h80
                have Tok_h108 : Tok h108 := Tok_ag (my_ag.up fh108 is_172 rfl) Tok_h80t92
                have f36 := fh108
                have k36 : h108 172 (8 * x1 + vm) = v81 := by rw [show 8 * x1 + vm = _ from by rw [em]]; exact my_up_self fh108
                refine w_aload_n gz_188_137 rfl ?_
                refine w_getX (v := 171) gz_188_138 is_151 rd_10 rfl (by decide) rfl ?_
                refine w_iload_n gz_188_141 rfl ?_
                refine w_dup2 gz_188_142 rfl rfl ?_
                refine w_iald gz_188_143 is_171 rd_70 (by omega) (by omega) (fun v110 ev110 pv110 qv110 => ?_)
                have zv110 := ev110.trans ((my_up_role fh108 is_171 is_172 rfl).trans ev103.symm)
                have c171 : ∀ j : Int, h108 171 j = h18_0 171 j := fun j => ((my_up_role fh108 is_171 is_172 rfl).trans ((my_fr.at frh80 is_171 rfl).trans (rfl : h18_0 171 j = h18_0 171 j)))
                have f8 : v110 ≤ 7 := by have q := c171 x1; omega
                refine w_iconst gz_188_144 (by decide) ?_
                refine w_iadd gz_188_145 ⟨by omega, by omega⟩ ?_
                have hi111 : 0 ≤ (v110 + 1) := by omega
                have hi112 : (v110 + 1) ≤ 8 := by omega
                refine w_iast gz_188_146 is_171 rd_70 (by omega) (by omega) (by omega) (by omega) (fun h113 fh113 => ?_)
                have gh113 : my_fr [(10, 7), (10, 8), (67, -1), (70, -1), (71, -1)] h h113 := my_fr.up gh108 is_171 fh113 rfl
                have Mq_h113 : Mq h113 wv := Mq_u (a := 171) hwv (by decide) (by omega) fh113 Mq_h108
                have P6_h113 : h113 167 6 = h 167 6 := P6_ag (my_ag.up fh113 is_171 rfl) P6_h108
                have Tok_h113 : Tok h113 := Tok_ag (my_ag.up fh113 is_171 rfl) Tok_h108
                have k46 := my_up_self fh113
                have z46 := b171 x1
                have z47 := c171 x1
                have e46 : h113 171 x1 = vm + 1 := by have z3 := c171 x1; have z2 := b171 x1; omega
                have d172 : ∀ j : Int, h113 172 j = h108 172 j := fun j => ((my_up_role fh113 is_172 is_171 rfl).trans (rfl : h108 172 j = h108 172 j))
                have fw2 : ∀ i : Int, 0 ≤ i → i ≤ 7 → i < vm + 1 → h113 172 (8 * x1 + i) < k151_27 := fun i i0 i7 il => by
                  rw [d172]
                  by_cases q : i = vm
                  · rw [q, k36]; omega
                  · rw [my_up_ne f36 (by omega), c172]; exact fw_18_0 i i0 i7 (by have z2 := b171 x1; omega)
                refine w_aload_n gz_188_147 rfl ?_
                refine w_getX (v := 153) gz_188_148 is_151 rd_10 rfl (by decide) rfl ?_
                refine w_aload_n gz_188_151 rfl ?_
                refine v_getI (j := 7) gz_188_152 rfl is_151 rd_10 rfl (fun v115 ev115 pv115 qv115 => ?_)
                have zv115 := ev115.trans ((my_up_role fh113 is_151 is_171 rfl).trans ((my_up_role fh108 is_151 is_172 rfl).trans (rfl : h80 151 7 = h80 151 7)))
                refine w_iald gz_188_155 is_153 rd_52 (by omega) (by omega) (fun v116 ev116 pv116 qv116 => ?_)
                refine w_iconst gz_188_156 (by decide) ?_
                refine w_icne (t := 164) gz_188_157 rfl (fun u117 => ?_) (fun u117 => ?_)
                ·
                  refine w_iconst gz_188_164 (by decide) ?_
                  refine w_istore_n (ls' := [(2, 151), (0, x1), (0, v100), (0, 0), (0, v81)]) gz_188_165 gm_188 rfl rfl rfl ?_
                  refine w_goto (t := 18) gz_188_166 rfl ?_
                  have ce118 : h113 151 7 = v115 := ev115.symm
                  have a168 : ∀ j : Int, h113 168 j = h18_0 168 j := fun j => ((my_up_role fh113 is_168 is_171 rfl).trans ((my_up_role fh108 is_168 is_172 rfl).trans ((my_fr.at frh80 is_168 rfl).trans (rfl : h18_0 168 j = h18_0 168 j))))
                  have a171 : ∀ j : Int, h113 171 j = h113 171 j := fun j => rfl
                  have a172 : ∀ j : Int, h113 172 j = h108 172 j := fun j => ((my_up_role fh113 is_172 is_171 rfl).trans (rfl : h108 172 j = h108 172 j))
                  refine w_weak (ls' := [(2, 151), (0, x1), (0, v100), (0, 0), (9, 0)]) (wk_e (wk_e (wk_e (wk_e (wk_9 wk_n))))) ?_
                  exact ih_18_0 (v100) (0) (v96) h113 (gh113) (by omega) (by omega) (by omega) (by omega) (((my_up_role fh113 is_151 is_171 rfl).trans ((my_up_role fh108 is_151 is_172 rfl).trans ((my_fr.at frh80 is_151 rfl).trans ev72.symm))).trans (by omega)) (((my_up_role fh113 is_151 is_171 rfl).trans ((my_up_role fh108 is_151 is_172 rfl).trans ev96.symm)).trans (by omega)) Tok_h113 Mq_h113 P6_h113 (by rw [a168]; first | exact k168 | exact k8_18_0) (by omega) (by first | (rw [a171]; exact pq_18_0) | (rw [a171, k13]; exact pop8_0) | (rw [a171, k46]; omega) | omega) (by omega) (by omega) (by first | (intro i i0 i7 il; exfalso; rw [a171, k13] at il; omega) | (intro i i0 i7 il; rw [a172]; exact fw_18_0 i i0 i7 (by have z := a171 x1; omega)) | exact (fun i i0 i7 il => fw2 i i0 i7 (by omega)) | omega) (by omega)
                ·
                  refine w_iconst gz_188_160 (by decide) ?_
                  refine w_goto (t := 165) gz_188_161 rfl ?_
                  refine w_istore_n (ls' := [(2, 151), (0, x1), (0, v100), (0, 1), (0, v81)]) gz_188_165 gm_188 rfl rfl rfl ?_
                  refine w_goto (t := 18) gz_188_166 rfl ?_
                  have ce119 : h113 151 7 = v115 := ev115.symm
                  have a168 : ∀ j : Int, h113 168 j = h18_0 168 j := fun j => ((my_up_role fh113 is_168 is_171 rfl).trans ((my_up_role fh108 is_168 is_172 rfl).trans ((my_fr.at frh80 is_168 rfl).trans (rfl : h18_0 168 j = h18_0 168 j))))
                  have a171 : ∀ j : Int, h113 171 j = h113 171 j := fun j => rfl
                  have a172 : ∀ j : Int, h113 172 j = h108 172 j := fun j => ((my_up_role fh113 is_172 is_171 rfl).trans (rfl : h108 172 j = h108 172 j))
                  refine w_weak (ls' := [(2, 151), (0, x1), (0, v100), (0, 1), (9, 0)]) (wk_e (wk_e (wk_e (wk_e (wk_9 wk_n))))) ?_
                  exact ih_18_0 (v100) (1) (v96) h113 (gh113) (by omega) (by omega) (by omega) (by omega) (((my_up_role fh113 is_151 is_171 rfl).trans ((my_up_role fh108 is_151 is_172 rfl).trans ((my_fr.at frh80 is_151 rfl).trans ev72.symm))).trans (by omega)) (((my_up_role fh113 is_151 is_171 rfl).trans ((my_up_role fh108 is_151 is_172 rfl).trans ev96.symm)).trans (by omega)) Tok_h113 Mq_h113 P6_h113 (by rw [a168]; first | exact k168 | exact k8_18_0) (by omega) (by first | (rw [a171]; exact pq_18_0) | (rw [a171, k13]; exact pop8_0) | (rw [a171, k46]; omega) | omega) (by omega) (by omega) (by first | (intro i i0 i7 il; exfalso; rw [a171, k13] at il; omega) | (intro i i0 i7 il; rw [a172]; exact fw_18_0 i i0 i7 (by have z := a171 x1; omega)) | exact (fun i i0 i7 il => fw2 i i0 i7 (by omega)) | omega) (by omega)
            ·
              refine w_iload_n gz_188_60 rfl ?_
              refine w_aload_n gz_188_61 rfl ?_
              refine w_getX (v := 155) gz_188_62 is_151 rd_10 rfl (by decide) rfl ?_
              refine w_aload_n gz_188_65 rfl ?_
              refine v_getI (j := 7) gz_188_66 rfl is_151 rd_10 rfl (fun v121 ev121 pv121 qv121 => ?_)
              have zv121 := ev121.trans ev67.symm
              refine w_lald gz_188_69 is_155 rd_54 (by omega) (by omega) (fun v122 ev122 pv122 => ?_)
              have tb : 0 ≤ v122 ∧ v122 ≤ 999 := by
                have q := Tok_at n_Tok_18_0
                subst_vars
                omega
              refine w_l2iE gz_188_70 (fun v123 pv123 qv123 xv123 => ?_)
              have z155 : v123 = h18_0 155 (h18_0 151 7) := by subst_vars; omega
              refine w_ishrX gz_188_71 (fun v124 ev124 pv124 qv124 => ?_)
              refine w_iconst gz_188_72 (by decide) ?_
              refine w_iandXM gz_188_73 (by decide) (fun v125 ev125 pv125 qv125 => ?_)
              obtain ⟨vz, ez⟩ : ∃ vz : Int, vz = h18_0 155 (h18_0 151 7) := ⟨_, rfl⟩
              have bt : v125 = bnd (bsr p18_0 vz) 1 := by rw [ez, ← z155]; subst_vars; rfl
              refine w_iconst gz_188_74 (by decide) ?_
              refine w_icne (t := 83) gz_188_75 rfl (fun u126 => ?_) (fun u126 => ?_)
              ·
                refine w_aload_n gz_188_83 rfl ?_
                refine w_aload_n gz_188_84 rfl ?_
                refine v_getI (j := 27) gz_188_85 rfl is_151 rd_10 rfl (fun v127 ev127 pv127 qv127 => ?_)
                have zv127 := ev127.trans ev69.symm
                refine w_iconst gz_188_88 (by decide) ?_
                refine w_isub gz_188_89 ⟨by omega, by omega⟩ ?_
                have ce128 : h18_0 151 7 = v121 := ev121.symm
                have ce129 : h18_0 151 27 = v127 := ev127.symm
                refine w_inv (k := 0) (as := [(0, (v127 - 1))]) (r := []) (x := 151) (ls0 := [(2, 151), (0, (v127 - 1))]) gz_188_90 gm_187 rfl is_151 rd_10 rfl rfl rfl rfl rfl (c_Model_takeNumber2_f0 (d := d) (x1 := (v127 - 1)) (by omega) (by omega) (ev3.symm.trans (by omega)) n_Tok_18_0 (fun h130 frh130 w131 w132 xp133 Tok_h130t134 => ?_) (fun h135 v136 frh135 w137 w138 w139 w140 w141 xp142 xp143 xp144 xp145 xp146 Tok_h135t147 => ?_))
                ·
                  have gh130 : my_fr [(10, 7), (10, 8), (67, -1), (70, -1), (71, -1)] h h130 := my_fr.tr gh_18_0 (frh130.mo rfl)
                  have Mq_h130 : Mq h130 wv := Mq_ag (my_ag.fr frh130 rfl) n_Mq_18_0
                  have P6_h130 : h130 167 6 = h 167 6 := P6_ag (my_ag.fr frh130 rfl) n_P6_18_0
                  show wp l rho (d + 2) 188 93 [(2, 151), (0, x1), (0, p18_0), (0, p18_1), (9, 0)] [(0, 0)] h130 Q
                  refine w_istore (ls' := [(2, 151), (0, x1), (0, p18_0), (0, p18_1), (0, 0)]) gz_188_93 gm_188 rfl rfl rfl ?_
                  refine w_aload_n gz_188_95 rfl ?_
                  refine v_getI (j := 8) gz_188_96 rfl is_151 rd_10 rfl (fun v148 ev148 pv148 qv148 => ?_)
                  have zv148 := ev148.trans (rfl : h130 151 8 = h130 151 8)
                  refine w_ifne (t := 106) gz_188_99 rfl (fun u149 => ?_) (fun u149 => by exfalso; omega)
                  refine w_iconst gz_188_106 (by decide) ?_
                  refine w_istore_n (ls' := [(2, 151), (0, x1), (0, p18_0), (0, 0), (0, 0)]) gz_188_107 gm_188 rfl rfl rfl ?_
                  refine w_iload_n gz_188_108 rfl ?_
                  refine w_ifeq (t := 166) gz_188_109 rfl (fun u150 => ?_) (fun u150 => by exfalso; omega)
                  refine w_goto (t := 18) gz_188_166 rfl ?_
                  have a168 : ∀ j : Int, h130 168 j = h18_0 168 j := fun j => ((my_fr.at frh130 is_168 rfl).trans (rfl : h18_0 168 j = h18_0 168 j))
                  have a171 : ∀ j : Int, h130 171 j = h18_0 171 j := fun j => ((my_fr.at frh130 is_171 rfl).trans (rfl : h18_0 171 j = h18_0 171 j))
                  have a172 : ∀ j : Int, h130 172 j = h18_0 172 j := fun j => ((my_fr.at frh130 is_172 rfl).trans (rfl : h18_0 172 j = h18_0 172 j))
                  refine w_weak (ls' := [(2, 151), (0, x1), (0, p18_0), (0, 0), (9, 0)]) (wk_e (wk_e (wk_e (wk_e (wk_9 wk_n))))) ?_
                  exact ih_18_0 (p18_0) (0) (v148) h130 (gh130) (by omega) (by omega) (by omega) (by omega) (((my_fr.at frh130 is_151 rfl).trans ev127.symm).trans (by omega)) (ev148.symm.trans (by omega)) Tok_h130t134 Mq_h130 P6_h130 (by rw [a168]; first | exact k168 | exact k8_18_0) (by omega) (by first | (rw [a171]; exact pq_18_0) | (rw [a171, k13]; exact pop8_0) | (rw [a171, k46]; omega) | omega) (by omega) (by omega) (by first | (intro i i0 i7 il; exfalso; rw [a171, k13] at il; omega) | (intro i i0 i7 il; rw [a172]; exact fw_18_0 i i0 i7 (by have z := a171 x1; omega)) | exact (fun i i0 i7 il => fw2 i i0 i7 (by omega)) | omega) (by omega)
                ·
                  have gh135 : my_fr [(10, 7), (10, 8), (67, -1), (70, -1), (71, -1)] h h135 := my_fr.tr gh_18_0 (frh135.mo rfl)
                  have Mq_h135 : Mq h135 wv := Mq_ag (my_ag.fr frh135 rfl) n_Mq_18_0
                  have P6_h135 : h135 167 6 = h 167 6 := P6_ag (my_ag.fr frh135 rfl) n_P6_18_0
                  show wp l rho (d + 2) 188 93 [(2, 151), (0, x1), (0, p18_0), (0, p18_1), (9, 0)] [(0, v136)] h135 Q
                  refine w_istore (ls' := [(2, 151), (0, x1), (0, p18_0), (0, p18_1), (0, v136)]) gz_188_93 gm_188 rfl rfl rfl ?_
                  refine w_aload_n gz_188_95 rfl ?_
                  refine v_getI (j := 8) gz_188_96 rfl is_151 rd_10 rfl (fun v151 ev151 pv151 qv151 => ?_)
                  have zv151 := ev151.trans w141
                  refine w_ifne (t := 106) gz_188_99 rfl (fun u152 => by exfalso; omega) (fun u152 => ?_)
                  refine w_iconst gz_188_102 (by decide) ?_
                  refine w_goto (t := 107) gz_188_103 rfl ?_
                  refine w_istore_n (ls' := [(2, 151), (0, x1), (0, p18_0), (0, 1), (0, v136)]) gz_188_107 gm_188 rfl rfl rfl ?_
                  refine w_iload_n gz_188_108 rfl ?_
                  refine w_ifeq (t := 166) gz_188_109 rfl (fun u153 => by exfalso; omega) (fun u153 => ?_)
                  refine w_iload_n gz_188_112 rfl ?_
                  refine w_iconst gz_188_113 (by decide) ?_
                  refine w_iload gz_188_114 rfl ?_
                  refine w_ishlX gz_188_116 (fun v154 ev154 pv154 qv154 => ?_)
                  refine w_iorX gz_188_117 (fun v155 ev155 pv155 qv155 => ?_)
                  have e17 : v155 = bor p18_0 (bsl 1 v136) := by subst_vars; rfl
                  have pp : pop8 v155 = pop8 p18_0 + 1 ∧ pop8 p18_0 ≤ 7 ∧ 0 ≤ v155 ∧ v155 ≤ 255 := by first | (have yz : v136 = vz := (by omega); rw [yz] at e17; have z := pop8_add pm_18_0.1 pm_18_0.2 (v := vz) (by omega) (by omega) (by omega); rw [← e17] at z; exact z) | (exfalso; (try clear k0); (try clear k1); grind) | omega
                  refine w_istore_n (ls' := [(2, 151), (0, x1), (0, v155), (0, 1), (0, v136)]) gz_188_118 gm_188 rfl rfl rfl ?_
                  refine w_aload_n gz_188_119 rfl ?_
                  refine w_getX (v := 172) gz_188_120 is_151 rd_10 rfl (by decide) rfl ?_
                  refine w_bipush gz_188_123 (by decide) ?_
                  refine w_iload_n gz_188_125 rfl ?_
                  refine w_imul gz_188_126 ⟨by omega, by omega⟩ ?_
                  refine w_aload_n gz_188_127 rfl ?_
                  refine w_getX (v := 171) gz_188_128 is_151 rd_10 rfl (by decide) rfl ?_
                  refine w_iload_n gz_188_131 rfl ?_
                  refine w_iald gz_188_132 is_171 rd_70 (by omega) (by omega) (fun v158 ev158 pv158 qv158 => ?_)
                  have b171 : ∀ j : Int, h135 171 j = h18_0 171 j := fun j => ((my_fr.at frh135 is_171 rfl).trans (rfl : h18_0 171 j = h18_0 171 j))
                  have f7 : v158 ≤ 7 := by have q := b171 x1; omega
                  obtain ⟨vm, em⟩ : ∃ vm : Int, vm = v158 := ⟨_, rfl⟩
                  have c172 : ∀ j : Int, h135 172 j = h18_0 172 j := fun j => ((my_fr.at frh135 is_172 rfl).trans (rfl : h18_0 172 j = h18_0 172 j))
                  refine w_iadd gz_188_133 ⟨by omega, by omega⟩ ?_
                  refine w_iload gz_188_134 rfl ?_
                  have hi159 : 0 ≤ v136 := by omega
                  have hi160 : v136 ≤ 7 := by omega
                  have hi161 : 0 ≤ ((8 * x1) + v158) := by omega
                  have hi162 : ((8 * x1) + v158) ≤ 335 := by omega
                  refine w_iast gz_188_136 is_172 rd_71 (by omega) (by omega) (by omega) (by omega) (fun h163 fh163 => ?_)
                  have gh163 : my_fr [(10, 7), (10, 8), (67, -1), (70, -1), (71, -1)] h h163 := my_fr.up gh135 is_172 fh163 rfl
                  have Mq_h163 : Mq h163 wv := Mq_v (a := 172) hwv (by decide) (by omega) fh163 Mq_h135
                  have P6_h163 : h163 167 6 = h 167 6 := P6_ag (my_ag.up fh163 is_172 rfl) P6_h135
                  have Tok_h163 : Tok h163 := Tok_ag (my_ag.up fh163 is_172 rfl) Tok_h135t147
                  have f36 := fh163
                  have k36 : h163 172 (8 * x1 + vm) = v136 := by rw [show 8 * x1 + vm = _ from by rw [em]]; exact my_up_self fh163
                  refine w_aload_n gz_188_137 rfl ?_
                  refine w_getX (v := 171) gz_188_138 is_151 rd_10 rfl (by decide) rfl ?_
                  refine w_iload_n gz_188_141 rfl ?_
                  refine w_dup2 gz_188_142 rfl rfl ?_
                  refine w_iald gz_188_143 is_171 rd_70 (by omega) (by omega) (fun v165 ev165 pv165 qv165 => ?_)
                  have zv165 := ev165.trans ((my_up_role fh163 is_171 is_172 rfl).trans ev158.symm)
                  have c171 : ∀ j : Int, h163 171 j = h18_0 171 j := fun j => ((my_up_role fh163 is_171 is_172 rfl).trans ((my_fr.at frh135 is_171 rfl).trans (rfl : h18_0 171 j = h18_0 171 j)))
                  have f8 : v165 ≤ 7 := by have q := c171 x1; omega
                  refine w_iconst gz_188_144 (by decide) ?_
                  refine w_iadd gz_188_145 ⟨by omega, by omega⟩ ?_
                  have hi166 : 0 ≤ (v165 + 1) := by omega
                  have hi167 : (v165 + 1) ≤ 8 := by omega
                  refine w_iast gz_188_146 is_171 rd_70 (by omega) (by omega) (by omega) (by omega) (fun h168 fh168 => ?_)
                  have gh168 : my_fr [(10, 7), (10, 8), (67, -1), (70, -1), (71, -1)] h h168 := my_fr.up gh163 is_171 fh168 rfl
                  have Mq_h168 : Mq h168 wv := Mq_u (a := 171) hwv (by decide) (by omega) fh168 Mq_h163
                  have P6_h168 : h168 167 6 = h 167 6 := P6_ag (my_ag.up fh168 is_171 rfl) P6_h163
                  have Tok_h168 : Tok h168 := Tok_ag (my_ag.up fh168 is_171 rfl) Tok_h163
                  have k46 := my_up_self fh168
                  have z46 := b171 x1
                  have z47 := c171 x1
                  have e46 : h168 171 x1 = vm + 1 := by have z3 := c171 x1; have z2 := b171 x1; omega
                  have d172 : ∀ j : Int, h168 172 j = h163 172 j := fun j => ((my_up_role fh168 is_172 is_171 rfl).trans (rfl : h163 172 j = h163 172 j))
                  have fw2 : ∀ i : Int, 0 ≤ i → i ≤ 7 → i < vm + 1 → h168 172 (8 * x1 + i) < k151_27 := fun i i0 i7 il => by
                    rw [d172]
                    by_cases q : i = vm
                    · rw [q, k36]; omega
                    · rw [my_up_ne f36 (by omega), c172]; exact fw_18_0 i i0 i7 (by have z2 := b171 x1; omega)
                  refine w_aload_n gz_188_147 rfl ?_
                  refine w_getX (v := 153) gz_188_148 is_151 rd_10 rfl (by decide) rfl ?_
                  refine w_aload_n gz_188_151 rfl ?_
                  refine v_getI (j := 7) gz_188_152 rfl is_151 rd_10 rfl (fun v170 ev170 pv170 qv170 => ?_)
                  have zv170 := ev170.trans ((my_up_role fh168 is_151 is_171 rfl).trans ((my_up_role fh163 is_151 is_172 rfl).trans (rfl : h135 151 7 = h135 151 7)))
                  refine w_iald gz_188_155 is_153 rd_52 (by omega) (by omega) (fun v171 ev171 pv171 qv171 => ?_)
                  refine w_iconst gz_188_156 (by decide) ?_
                  refine w_icne (t := 164) gz_188_157 rfl (fun u172 => ?_) (fun u172 => ?_)
                  ·
                    refine w_iconst gz_188_164 (by decide) ?_
                    refine w_istore_n (ls' := [(2, 151), (0, x1), (0, v155), (0, 0), (0, v136)]) gz_188_165 gm_188 rfl rfl rfl ?_
                    refine w_goto (t := 18) gz_188_166 rfl ?_
                    have ce173 : h168 151 7 = v170 := ev170.symm
                    have a168 : ∀ j : Int, h168 168 j = h18_0 168 j := fun j => ((my_up_role fh168 is_168 is_171 rfl).trans ((my_up_role fh163 is_168 is_172 rfl).trans ((my_fr.at frh135 is_168 rfl).trans (rfl : h18_0 168 j = h18_0 168 j))))
                    have a171 : ∀ j : Int, h168 171 j = h168 171 j := fun j => rfl
                    have a172 : ∀ j : Int, h168 172 j = h163 172 j := fun j => ((my_up_role fh168 is_172 is_171 rfl).trans (rfl : h163 172 j = h163 172 j))
                    refine w_weak (ls' := [(2, 151), (0, x1), (0, v155), (0, 0), (9, 0)]) (wk_e (wk_e (wk_e (wk_e (wk_9 wk_n))))) ?_
                    exact ih_18_0 (v155) (0) (v151) h168 (gh168) (by omega) (by omega) (by omega) (by omega) (((my_up_role fh168 is_151 is_171 rfl).trans ((my_up_role fh163 is_151 is_172 rfl).trans ((my_fr.at frh135 is_151 rfl).trans ev127.symm))).trans (by omega)) (((my_up_role fh168 is_151 is_171 rfl).trans ((my_up_role fh163 is_151 is_172 rfl).trans ev151.symm)).trans (by omega)) Tok_h168 Mq_h168 P6_h168 (by rw [a168]; first | exact k168 | exact k8_18_0) (by omega) (by first | (rw [a171]; exact pq_18_0) | (rw [a171, k13]; exact pop8_0) | (rw [a171, k46]; omega) | omega) (by omega) (by omega) (by first | (intro i i0 i7 il; exfalso; rw [a171, k13] at il; omega) | (intro i i0 i7 il; rw [a172]; exact fw_18_0 i i0 i7 (by have z := a171 x1; omega)) | exact (fun i i0 i7 il => fw2 i i0 i7 (by omega)) | omega) (by omega)
                  ·
                    refine w_iconst gz_188_160 (by decide) ?_
                    refine w_goto (t := 165) gz_188_161 rfl ?_
                    refine w_istore_n (ls' := [(2, 151), (0, x1), (0, v155), (0, 1), (0, v136)]) gz_188_165 gm_188 rfl rfl rfl ?_
                    refine w_goto (t := 18) gz_188_166 rfl ?_
                    have ce174 : h168 151 7 = v170 := ev170.symm
                    have a168 : ∀ j : Int, h168 168 j = h18_0 168 j := fun j => ((my_up_role fh168 is_168 is_171 rfl).trans ((my_up_role fh163 is_168 is_172 rfl).trans ((my_fr.at frh135 is_168 rfl).trans (rfl : h18_0 168 j = h18_0 168 j))))
                    have a171 : ∀ j : Int, h168 171 j = h168 171 j := fun j => rfl
                    have a172 : ∀ j : Int, h168 172 j = h163 172 j := fun j => ((my_up_role fh168 is_172 is_171 rfl).trans (rfl : h163 172 j = h163 172 j))
                    refine w_weak (ls' := [(2, 151), (0, x1), (0, v155), (0, 1), (9, 0)]) (wk_e (wk_e (wk_e (wk_e (wk_9 wk_n))))) ?_
                    exact ih_18_0 (v155) (1) (v151) h168 (gh168) (by omega) (by omega) (by omega) (by omega) (((my_up_role fh168 is_151 is_171 rfl).trans ((my_up_role fh163 is_151 is_172 rfl).trans ((my_fr.at frh135 is_151 rfl).trans ev127.symm))).trans (by omega)) (((my_up_role fh168 is_151 is_171 rfl).trans ((my_up_role fh163 is_151 is_172 rfl).trans ev151.symm)).trans (by omega)) Tok_h168 Mq_h168 P6_h168 (by rw [a168]; first | exact k168 | exact k8_18_0) (by omega) (by first | (rw [a171]; exact pq_18_0) | (rw [a171, k13]; exact pop8_0) | (rw [a171, k46]; omega) | omega) (by omega) (by omega) (by first | (intro i i0 i7 il; exfalso; rw [a171, k13] at il; omega) | (intro i i0 i7 il; rw [a172]; exact fw_18_0 i i0 i7 (by have z := a171 x1; omega)) | exact (fun i i0 i7 il => fw2 i i0 i7 (by omega)) | omega) (by omega)
              ·
                refine w_aload_n gz_188_78 rfl ?_
                refine w_iconst gz_188_79 (by decide) ?_
                have ce175 : h18_0 151 7 = v121 := ev121.symm
                have ce176 : h18_0 151 27 = v69 := ev69.symm
                refine w_inv (k := 0) (as := [(0, 3)]) (r := []) (x := 151) (ls0 := [(2, 151), (0, 3)]) gz_188_80 gm_178 rfl is_151 rd_10 rfl rfl rfl rfl rfl ?_
                refine w_aload_n gz_178_0 rfl ?_
                refine v_getI (j := 8) gz_178_1 rfl is_151 rd_10 rfl (fun v177 ev177 pv177 qv177 => ?_)
                have zv177 := ev177.trans ev3.symm
                refine w_ifne (t := 25) gz_178_4 rfl (fun u178 => by exfalso; omega) (fun u178 => ?_)
                refine w_aload_n gz_178_7 rfl ?_
                refine w_iload_n gz_178_8 rfl ?_
                refine w_bipush gz_178_9 (by decide) ?_
                refine w_aload_n gz_178_11 rfl ?_
                refine w_getX (v := 154) gz_178_12 is_151 rd_10 rfl (by decide) rfl ?_
                refine w_aload_n gz_178_15 rfl ?_
                refine v_getI (j := 7) gz_178_16 rfl is_151 rd_10 rfl (fun v180 ev180 pv180 qv180 => ?_)
                have zv180 := ev180.trans ev121.symm
                refine w_iald gz_178_19 is_154 rd_53 (by omega) (by omega) (fun v181 ev181 pv181 qv181 => ?_)
                refine w_imul gz_178_20 ⟨by omega, by omega⟩ ?_
                refine w_iadd gz_178_21 ⟨by omega, by omega⟩ ?_
                refine v_putI (j := 8) gz_178_22 rfl is_151 rd_10 rfl (by omega) (by omega) rfl (fun h182 fh182 => ?_)
                have gh182 : my_fr [(10, 7), (10, 8), (67, -1), (70, -1), (71, -1)] h h182 := my_fr.up gh_18_0 is_151 fh182 rfl
                have Tok_h182 : Tok h182 := Tok_ag (my_ag.up fh182 is_151 rfl) n_Tok_18_0
                have Mq_h182 : Mq h182 wv := Mq_ag (my_ag.up fh182 is_151 rfl) n_Mq_18_0
                have P6_h182 : h182 167 6 = h 167 6 := P6_ag (my_ag.up fh182 is_151 rfl) n_P6_18_0
                refine w_vret gz_178_25 gm_178 ?_
                show wp l rho (d + 2) 188 83 [(2, 151), (0, x1), (0, p18_0), (0, p18_1), (9, 0)] [] h182 Q
                refine w_aload_n gz_188_83 rfl ?_
                refine w_aload_n gz_188_84 rfl ?_
                refine v_getI (j := 27) gz_188_85 rfl is_151 rd_10 rfl (fun v183 ev183 pv183 qv183 => ?_)
                have zv183 := ev183.trans ((my_up_fld fh182 (by decide)).trans ev69.symm)
                refine w_iconst gz_188_88 (by decide) ?_
                refine w_isub gz_188_89 ⟨by omega, by omega⟩ ?_
                have ce184 : h182 151 7 = v180 := ((my_up_fld fh182 (by decide)).trans ev180.symm)
                have ce185 : h182 151 27 = v183 := ev183.symm
                refine w_inv (k := 0) (as := [(0, (v183 - 1))]) (r := []) (x := 151) (ls0 := [(2, 151), (0, (v183 - 1))]) gz_188_90 gm_187 rfl is_151 rd_10 rfl rfl rfl rfl rfl (c_Model_takeNumber2_f1 (d := d) (x1 := (v183 - 1)) (by omega) (by omega) ((3 + (16 * v181))) ((my_up_self fh182)) (by omega) (by omega) Tok_h182 (fun w186 w187 xp188 Tok_h182t189 => ?_))
                show wp l rho (d + 2) 188 93 [(2, 151), (0, x1), (0, p18_0), (0, p18_1), (9, 0)] [(0, 0)] h182 Q
                refine w_istore (ls' := [(2, 151), (0, x1), (0, p18_0), (0, p18_1), (0, 0)]) gz_188_93 gm_188 rfl rfl rfl ?_
                refine w_aload_n gz_188_95 rfl ?_
                refine v_getI (j := 8) gz_188_96 rfl is_151 rd_10 rfl (fun v190 ev190 pv190 qv190 => ?_)
                have zv190 := ev190.trans (my_up_self fh182)
                refine w_ifne (t := 106) gz_188_99 rfl (fun u191 => ?_) (fun u191 => by exfalso; omega)
                refine w_iconst gz_188_106 (by decide) ?_
                refine w_istore_n (ls' := [(2, 151), (0, x1), (0, p18_0), (0, 0), (0, 0)]) gz_188_107 gm_188 rfl rfl rfl ?_
                refine w_iload_n gz_188_108 rfl ?_
                refine w_ifeq (t := 166) gz_188_109 rfl (fun u192 => ?_) (fun u192 => by exfalso; omega)
                refine w_goto (t := 18) gz_188_166 rfl ?_
                have ce193 : h182 151 7 = v180 := ((my_up_fld fh182 (by decide)).trans ev180.symm)
                have a168 : ∀ j : Int, h182 168 j = h18_0 168 j := fun j => ((my_up_role fh182 is_168 is_151 rfl).trans (rfl : h18_0 168 j = h18_0 168 j))
                have a171 : ∀ j : Int, h182 171 j = h18_0 171 j := fun j => ((my_up_role fh182 is_171 is_151 rfl).trans (rfl : h18_0 171 j = h18_0 171 j))
                have a172 : ∀ j : Int, h182 172 j = h18_0 172 j := fun j => ((my_up_role fh182 is_172 is_151 rfl).trans (rfl : h18_0 172 j = h18_0 172 j))
                refine w_weak (ls' := [(2, 151), (0, x1), (0, p18_0), (0, 0), (9, 0)]) (wk_e (wk_e (wk_e (wk_e (wk_9 wk_n))))) ?_
                exact ih_18_0 (p18_0) (0) (v190) h182 (gh182) (by omega) (by omega) (by omega) (by omega) (ev183.symm.trans (by omega)) (ev190.symm.trans (by omega)) Tok_h182t189 Mq_h182 P6_h182 (by rw [a168]; first | exact k168 | exact k8_18_0) (by omega) (by first | (rw [a171]; exact pq_18_0) | (rw [a171, k13]; exact pop8_0) | (rw [a171, k46]; omega) | omega) (by omega) (by omega) (by first | (intro i i0 i7 il; exfalso; rw [a171, k13] at il; omega) | (intro i i0 i7 il; rw [a172]; exact fw_18_0 i i0 i7 (by have z := a171 x1; omega)) | exact (fun i i0 i7 il => fw2 i i0 i7 (by omega)) | omega) (by omega)
  refine w_aload_n gz_188_0 rfl ?_
  refine w_getX (v := 168) gz_188_1 is_151 rd_10 rfl (by decide) rfl ?_
  refine w_iload_n gz_188_4 rfl ?_
  refine w_iconst gz_188_5 (by decide) ?_
  refine w_iast gz_188_6 is_168 rd_67 (by omega) (by omega) (by omega) (by omega) (fun h195 fh195 => ?_)
  have gh195 : my_fr [(10, 7), (10, 8), (67, -1), (70, -1), (71, -1)] h h195 := my_fr.up my_fr.rf is_168 fh195 rfl
  have Tok_h195 : Tok h195 := Tok_ag (my_ag.up fh195 is_168 rfl) n_Tok
  have Mq_h195 : Mq h195 wv := Mq_u (a := 168) hwv (by decide) (by omega) fh195 n_Mq
  have P6_h195 : h195 167 6 = h 167 6 := P6_ag (my_ag.up fh195 is_168 rfl) (rfl)
  have k168 : h195 168 x1 = 3 := my_up_self fh195
  refine w_aload_n gz_188_7 rfl ?_
  refine w_getX (v := 171) gz_188_8 is_151 rd_10 rfl (by decide) rfl ?_
  refine w_iload_n gz_188_11 rfl ?_
  refine w_iconst gz_188_12 (by decide) ?_
  refine w_iast gz_188_13 is_171 rd_70 (by omega) (by omega) (by omega) (by omega) (fun h197 fh197 => ?_)
  have gh197 : my_fr [(10, 7), (10, 8), (67, -1), (70, -1), (71, -1)] h h197 := my_fr.up gh195 is_171 fh197 rfl
  have Tok_h197 : Tok h197 := Tok_ag (my_ag.up fh197 is_171 rfl) Tok_h195
  have Mq_h197 : Mq h197 wv := Mq_u (a := 171) hwv (by decide) (by omega) fh197 Mq_h195
  have P6_h197 : h197 167 6 = h 167 6 := P6_ag (my_ag.up fh197 is_171 rfl) P6_h195
  have k13 : h197 171 x1 = 0 := my_up_self fh197
  refine w_iconst gz_188_14 (by decide) ?_
  refine w_istore_n (ls' := [(2, 151), (0, x1), (0, 0), (9, 0), (9, 0)]) gz_188_15 gm_188 rfl rfl rfl ?_
  refine w_iconst gz_188_16 (by decide) ?_
  refine w_istore_n (ls' := [(2, 151), (0, x1), (0, 0), (0, 1), (9, 0)]) gz_188_17 gm_188 rfl rfl rfl ?_
  have ce198 : h197 151 7 = k151_7 := ((my_up_role fh197 is_151 is_171 rfl).trans ((my_up_role fh195 is_151 is_168 rfl).trans ek151_7.symm))
  have a168 : ∀ j : Int, h197 168 j = h195 168 j := fun j => ((my_up_role fh197 is_168 is_171 rfl).trans (rfl : h195 168 j = h195 168 j))
  have a171 : ∀ j : Int, h197 171 j = h197 171 j := fun j => rfl
  have a172 : ∀ j : Int, h197 172 j = h 172 j := fun j => ((my_up_role fh197 is_172 is_171 rfl).trans ((my_up_role fh195 is_172 is_168 rfl).trans (rfl : h 172 j = h 172 j)))
  exact J18_0 (1003) (0) (1) (0) h197 (gh197) (by omega) (by omega) (by omega) (by omega) (((my_up_role fh197 is_151 is_171 rfl).trans ((my_up_role fh195 is_151 is_168 rfl).trans ek151_27.symm)).trans (by omega)) (((my_up_role fh197 is_151 is_171 rfl).trans ((my_up_role fh195 is_151 is_168 rfl).trans cf)).trans (by omega)) Tok_h197 Mq_h197 P6_h197 (by rw [a168]; first | exact k168 | exact k8_18_0) (by omega) (by first | (rw [a171]; exact pq_18_0) | (rw [a171, k13]; exact pop8_0) | (rw [a171, k46]; omega) | omega) (by omega) (by omega) (by first | (intro i i0 i7 il; exfalso; rw [a171, k13] at il; omega) | (intro i i0 i7 il; rw [a172]; exact fw_18_0 i i0 i7 (by have z := a171 x1; omega)) | exact (fun i i0 i7 il => fw2 i i0 i7 (by omega)) | omega) (by omega)
theorem c_Model_keeps2_f0 {l : Launch} {rho : Nat → Int32} {d : Nat} {h : my_H} {Q : my_H → my_V → Prop} {x1 : Int} (a1 : 0 ≤ x1) (b1 : x1 ≤ 5) (cf : h 151 8 = 0) (mq : Mq h x1) (hu : ∀ k : Int, 0 ≤ k → k ≤ 5 → h 164 k = 1 → h 165 k = 0 → h 166 k ≠ x1) (k0 : ∀ (h' : my_H), my_fr [(63, -1), (64, -1), (65, -1), (66, -1), (67, -1), (68, -1), (69, -1), (70, -1), (71, -1), (72, -1)] h h' → h' 151 8 = 0 → Mw3 h' → Q h' (9, 0)) : wp l rho d 191 0 [(2, 151), (0, x1), (9, 0), (9, 0), (9, 0), (9, 0)] [] h Q := by
  have J168_0 : ∀ (n : Nat) (p168_0 : Int) (h168_0 : my_H), my_fr [(63, -1), (64, -1), (65, -1), (66, -1), (67, -1), (68, -1), (69, -1), (70, -1), (71, -1), (72, -1)] h h168_0 → 0 ≤ p168_0 → p168_0 ≤ 4 → h168_0 151 8 = 0 → Put1 h h168_0 164 x1 1 → Put1 h h168_0 165 x1 (h 165 6) → Put1 h h168_0 166 x1 (h 166 6) → Put1 h h168_0 167 x1 (h 167 6) → Cpy h h168_0 168 (6 * x1) 6 36 → Cpy h h168_0 169 (6 * x1) 6 36 → Cpy h h168_0 170 (6 * x1) 6 36 → Cpy h h168_0 171 (6 * x1) 6 36 → Cpy h h168_0 172 (48 * x1) (48) 288 → 5 - p168_0 ≤ (n : Int) → wp l rho d 191 168 [(2, 151), (0, x1), (0, p168_0), (9, 0), (9, 0), (9, 0)] [] h168_0 Q := by
    intro n
    induction n with
    | zero => intro p168_0 h168_0 gh_168_0 q0_168_0 q1_168_0 c151_8_168_0 q4_168_0 q5_168_0 q6_168_0 q7_168_0 c8_168_0 c9_168_0 c0_168_0 c1_168_0 c2_168_0 hm_168_0; exfalso; omega
    | succ n ih_168_0 =>
      intro p168_0 h168_0 gh_168_0 q0_168_0 q1_168_0 c151_8_168_0 q4_168_0 q5_168_0 q6_168_0 q7_168_0 c8_168_0 c9_168_0 c0_168_0 c1_168_0 c2_168_0 hm_168_0
      refine w_iload_n gz_191_168 rfl ?_
      refine w_iconst gz_191_169 (by decide) ?_
      refine w_icge (t := 198) gz_191_170 rfl (fun u1 => ?_) (fun u1 => ?_)
      ·
        have a164 : ∀ j : Int, h168_0 164 j = h168_0 164 j := fun _ => rfl
        have a165 : ∀ j : Int, h168_0 165 j = h168_0 165 j := fun _ => rfl
        have a166 : ∀ j : Int, h168_0 166 j = h168_0 166 j := fun _ => rfl
        have a167 : ∀ j : Int, h168_0 167 j = h168_0 167 j := fun _ => rfl
        have a168 : ∀ j : Int, h168_0 168 j = h168_0 168 j := fun _ => rfl
        have a169 : ∀ j : Int, h168_0 169 j = h168_0 169 j := fun _ => rfl
        have a170 : ∀ j : Int, h168_0 170 j = h168_0 170 j := fun _ => rfl
        have a171 : ∀ j : Int, h168_0 171 j = h168_0 171 j := fun _ => rfl
        have a172 : ∀ j : Int, h168_0 172 j = h168_0 172 j := fun _ => rfl
        have Mw3_h168_0t2 : Mw3 h168_0 := Mw3_keep mq (by omega) (by omega) hu (fun j => my_fr.at gh_168_0 is_157 rfl) (Put1_eq a164 q4_168_0) (Put1_eq a165 q5_168_0) (Put1_eq a166 q6_168_0) (Put1_eq a167 q7_168_0) (Cpy_eq a168 c8_168_0) (Cpy_eq a169 c9_168_0) (Cpy_eq a170 c0_168_0) (Cpy_eq a171 c1_168_0) (Cpy_eq a172 c2_168_0)
        have c3 := c151_8_168_0
        exact w_vret gz_191_198 gm_191 (k0 h168_0 (gh_168_0) (by omega) Mw3_h168_0t2)
      ·
        refine w_aload_n gz_191_173 rfl ?_
        refine w_getX (v := 173) gz_191_174 is_151 rd_10 rfl (by decide) rfl ?_
        refine w_iconst gz_191_177 (by decide) ?_
        refine w_iload_n gz_191_178 rfl ?_
        refine w_imul gz_191_179 ⟨by omega, by omega⟩ ?_
        refine w_iload_n gz_191_180 rfl ?_
        refine w_iadd gz_191_181 ⟨by omega, by omega⟩ ?_
        refine w_aload_n gz_191_182 rfl ?_
        refine w_getX (v := 173) gz_191_183 is_151 rd_10 rfl (by decide) rfl ?_
        refine w_bipush gz_191_186 (by decide) ?_
        refine w_iload_n gz_191_188 rfl ?_
        refine w_iadd gz_191_189 ⟨by omega, by omega⟩ ?_
        refine w_iald gz_191_190 is_173 rd_72 (by omega) (by omega) (fun v6 ev6 pv6 qv6 => ?_)
        refine w_iast gz_191_191 is_173 rd_72 (by omega) (by omega) (by omega) (by omega) (fun h7 fh7 => ?_)
        have gh7 : my_fr [(63, -1), (64, -1), (65, -1), (66, -1), (67, -1), (68, -1), (69, -1), (70, -1), (71, -1), (72, -1)] h h7 := my_fr.up gh_168_0 is_173 fh7 rfl
        refine w_iinc (ls' := [(2, 151), (0, x1), (0, (p168_0 + 1)), (9, 0), (9, 0), (9, 0)]) gz_191_192 rfl gm_191 rfl rfl rfl ⟨by omega, by omega⟩ ?_
        refine w_goto (t := 168) gz_191_195 rfl ?_
        have a164 : ∀ j : Int, h7 164 j = h168_0 164 j := fun j => ((my_up_role fh7 is_164 is_173 rfl).trans (rfl : h168_0 164 j = h168_0 164 j))
        have a165 : ∀ j : Int, h7 165 j = h168_0 165 j := fun j => ((my_up_role fh7 is_165 is_173 rfl).trans (rfl : h168_0 165 j = h168_0 165 j))
        have a166 : ∀ j : Int, h7 166 j = h168_0 166 j := fun j => ((my_up_role fh7 is_166 is_173 rfl).trans (rfl : h168_0 166 j = h168_0 166 j))
        have a167 : ∀ j : Int, h7 167 j = h168_0 167 j := fun j => ((my_up_role fh7 is_167 is_173 rfl).trans (rfl : h168_0 167 j = h168_0 167 j))
        have a168 : ∀ j : Int, h7 168 j = h168_0 168 j := fun j => ((my_up_role fh7 is_168 is_173 rfl).trans (rfl : h168_0 168 j = h168_0 168 j))
        have a169 : ∀ j : Int, h7 169 j = h168_0 169 j := fun j => ((my_up_role fh7 is_169 is_173 rfl).trans (rfl : h168_0 169 j = h168_0 169 j))
        have a170 : ∀ j : Int, h7 170 j = h168_0 170 j := fun j => ((my_up_role fh7 is_170 is_173 rfl).trans (rfl : h168_0 170 j = h168_0 170 j))
        have a171 : ∀ j : Int, h7 171 j = h168_0 171 j := fun j => ((my_up_role fh7 is_171 is_173 rfl).trans (rfl : h168_0 171 j = h168_0 171 j))
        have a172 : ∀ j : Int, h7 172 j = h168_0 172 j := fun j => ((my_up_role fh7 is_172 is_173 rfl).trans (rfl : h168_0 172 j = h168_0 172 j))
        exact ih_168_0 ((p168_0 + 1)) h7 (gh7) (by omega) (by omega) (((my_up_role fh7 is_151 is_173 rfl).trans c151_8_168_0).trans (by omega)) (by first | exact Put1_eq a164 p4 | exact Put1_eq a164 q4_122_0 | exact Put1_eq a164 q4_48_0 | exact Put1_eq a164 q4_168_0 | omega) (by first | exact Put1_eq a165 p5 | exact Put1_eq a165 q5_122_0 | exact Put1_eq a165 q5_48_0 | exact Put1_eq a165 q5_168_0 | omega) (by first | exact Put1_eq a166 p6 | exact Put1_eq a166 q6_122_0 | exact Put1_eq a166 q6_48_0 | exact Put1_eq a166 q6_168_0 | omega) (by first | exact Put1_eq a167 p7 | exact Put1_eq a167 q7_122_0 | exact Put1_eq a167 q7_48_0 | exact Put1_eq a167 q7_168_0 | omega) (by first | exact Cpy_0 (by omega) a168 | exact Cpy_n (Cpy_eq a168 d8) (by omega) | exact Cpy_n (Cpy_eq a168 c8_122_0) (by omega) | exact Cpy_n (Cpy_eq a168 c8_48_0) (by omega) | exact Cpy_n (Cpy_eq a168 c8_168_0) (by omega) | omega) (by first | exact Cpy_0 (by omega) a169 | exact Cpy_n (Cpy_eq a169 d9) (by omega) | exact Cpy_n (Cpy_eq a169 c9_122_0) (by omega) | exact Cpy_n (Cpy_eq a169 c9_48_0) (by omega) | exact Cpy_n (Cpy_eq a169 c9_168_0) (by omega) | omega) (by first | exact Cpy_0 (by omega) a170 | exact Cpy_n (Cpy_eq a170 d0) (by omega) | exact Cpy_n (Cpy_eq a170 c0_122_0) (by omega) | exact Cpy_n (Cpy_eq a170 c0_48_0) (by omega) | exact Cpy_n (Cpy_eq a170 c0_168_0) (by omega) | omega) (by first | exact Cpy_0 (by omega) a171 | exact Cpy_n (Cpy_eq a171 d1) (by omega) | exact Cpy_n (Cpy_eq a171 c1_122_0) (by omega) | exact Cpy_n (Cpy_eq a171 c1_48_0) (by omega) | exact Cpy_n (Cpy_eq a171 c1_168_0) (by omega) | omega) (by first | exact Cpy_0 (by omega) a172 | exact Cpy_n (Cpy_eq a172 d2) (by omega) | exact Cpy_n (Cpy_eq a172 c2_122_0) (by omega) | exact Cpy_n (Cpy_eq a172 c2_48_0) (by omega) | exact Cpy_n (Cpy_eq a172 c2_168_0) (by omega) | omega) (by omega)
  have J48_0 : ∀ (n : Nat) (p48_0 : Int) (h48_0 : my_H), my_fr [(63, -1), (64, -1), (65, -1), (66, -1), (67, -1), (68, -1), (69, -1), (70, -1), (71, -1), (72, -1)] h h48_0 → 0 ≤ p48_0 → p48_0 ≤ 6 → h48_0 151 8 = 0 → Put1 h h48_0 164 x1 1 → Put1 h h48_0 165 x1 (h 165 6) → Put1 h h48_0 166 x1 (h 166 6) → Put1 h h48_0 167 x1 (h 167 6) → Cpy h h48_0 168 (6 * x1) p48_0 36 → Cpy h h48_0 169 (6 * x1) p48_0 36 → Cpy h h48_0 170 (6 * x1) p48_0 36 → Cpy h h48_0 171 (6 * x1) p48_0 36 → Cpy h h48_0 172 (48 * x1) (8 * p48_0) 288 → 7 - p48_0 ≤ (n : Int) → wp l rho d 191 48 [(2, 151), (0, x1), (0, p48_0), (9, 0), (9, 0), (9, 0)] [] h48_0 Q := by
    intro n
    induction n with
    | zero => intro p48_0 h48_0 gh_48_0 q0_48_0 q1_48_0 c151_8_48_0 q4_48_0 q5_48_0 q6_48_0 q7_48_0 c8_48_0 c9_48_0 c0_48_0 c1_48_0 c2_48_0 hm_48_0; exfalso; omega
    | succ n ih_48_0 =>
      intro p48_0 h48_0 gh_48_0 q0_48_0 q1_48_0 c151_8_48_0 q4_48_0 q5_48_0 q6_48_0 q7_48_0 c8_48_0 c9_48_0 c0_48_0 c1_48_0 c2_48_0 hm_48_0
      have J122_0 : ∀ (n : Nat) (p122_0 p122_1 : Int) (h122_0 : my_H), my_fr [(63, -1), (64, -1), (65, -1), (66, -1), (67, -1), (68, -1), (69, -1), (70, -1), (71, -1), (72, -1)] h h122_0 → p48_0 ≤ 5 → 0 ≤ p122_0 → p122_0 ≤ 35 → 0 ≤ p122_1 → p122_1 ≤ 8 → h122_0 151 8 = 0 → p122_0 = 6 * x1 + p48_0 → (p48_0 + 36) = 36 + p48_0 → Put1 h h122_0 164 x1 1 → Put1 h h122_0 165 x1 (h 165 6) → Put1 h h122_0 166 x1 (h 166 6) → Put1 h h122_0 167 x1 (h 167 6) → Cpy h h122_0 168 (6 * x1) (p48_0 + 1) 36 → Cpy h h122_0 169 (6 * x1) (p48_0 + 1) 36 → Cpy h h122_0 170 (6 * x1) (p48_0 + 1) 36 → Cpy h h122_0 171 (6 * x1) (p48_0 + 1) 36 → Cpy h h122_0 172 (48 * x1) (8 * p48_0 + p122_1) 288 → 9 - p122_1 ≤ (n : Int) → wp l rho d 191 122 [(2, 151), (0, x1), (0, p48_0), (0, p122_0), (0, (p48_0 + 36)), (0, p122_1)] [] h122_0 Q := by
        intro n
        induction n with
        | zero => intro p122_0 p122_1 h122_0 gh_122_0 q0_122_0 q1_122_0 q2_122_0 q3_122_0 q4_122_0 c151_8_122_0 e3_122_0 e4_122_0 q4_122_0 q5_122_0 q6_122_0 q7_122_0 c8_122_0 c9_122_0 c0_122_0 c1_122_0 c2_122_0 hm_122_0; exfalso; omega
        | succ n ih_122_0 =>
          intro p122_0 p122_1 h122_0 gh_122_0 q0_122_0 q1_122_0 q2_122_0 q3_122_0 q4_122_0 c151_8_122_0 e3_122_0 e4_122_0 q4_122_0 q5_122_0 q6_122_0 q7_122_0 c8_122_0 c9_122_0 c0_122_0 c1_122_0 c2_122_0 hm_122_0
          refine w_iload gz_191_122 rfl ?_
          refine w_bipush gz_191_124 (by decide) ?_
          refine w_icge (t := 160) gz_191_126 rfl (fun u8 => ?_) (fun u8 => ?_)
          ·
            refine w_iinc (ls' := [(2, 151), (0, x1), (0, (p48_0 + 1)), (0, p122_0), (0, (p48_0 + 36)), (0, p122_1)]) gz_191_160 rfl gm_191 rfl rfl rfl ⟨by omega, by omega⟩ ?_
            refine w_goto (t := 48) gz_191_163 rfl ?_
            have a164 : ∀ j : Int, h122_0 164 j = h122_0 164 j := fun _ => rfl
            have a165 : ∀ j : Int, h122_0 165 j = h122_0 165 j := fun _ => rfl
            have a166 : ∀ j : Int, h122_0 166 j = h122_0 166 j := fun _ => rfl
            have a167 : ∀ j : Int, h122_0 167 j = h122_0 167 j := fun _ => rfl
            have a168 : ∀ j : Int, h122_0 168 j = h122_0 168 j := fun _ => rfl
            have a169 : ∀ j : Int, h122_0 169 j = h122_0 169 j := fun _ => rfl
            have a170 : ∀ j : Int, h122_0 170 j = h122_0 170 j := fun _ => rfl
            have a171 : ∀ j : Int, h122_0 171 j = h122_0 171 j := fun _ => rfl
            have a172 : ∀ j : Int, h122_0 172 j = h122_0 172 j := fun _ => rfl
            refine w_weak (ls' := [(2, 151), (0, x1), (0, (p48_0 + 1)), (9, 0), (9, 0), (9, 0)]) (wk_e (wk_e (wk_e (wk_9 (wk_9 (wk_9 wk_n)))))) ?_
            exact ih_48_0 ((p48_0 + 1)) h122_0 (gh_122_0) (by omega) (by omega) (c151_8_122_0.trans (by omega)) (by first | exact Put1_eq a164 p4 | exact Put1_eq a164 q4_122_0 | exact Put1_eq a164 q4_48_0 | exact Put1_eq a164 q4_168_0 | omega) (by first | exact Put1_eq a165 p5 | exact Put1_eq a165 q5_122_0 | exact Put1_eq a165 q5_48_0 | exact Put1_eq a165 q5_168_0 | omega) (by first | exact Put1_eq a166 p6 | exact Put1_eq a166 q6_122_0 | exact Put1_eq a166 q6_48_0 | exact Put1_eq a166 q6_168_0 | omega) (by first | exact Put1_eq a167 p7 | exact Put1_eq a167 q7_122_0 | exact Put1_eq a167 q7_48_0 | exact Put1_eq a167 q7_168_0 | omega) (by first | exact Cpy_0 (by omega) a168 | exact Cpy_n (Cpy_eq a168 d8) (by omega) | exact Cpy_n (Cpy_eq a168 c8_122_0) (by omega) | exact Cpy_n (Cpy_eq a168 c8_48_0) (by omega) | exact Cpy_n (Cpy_eq a168 c8_168_0) (by omega) | omega) (by first | exact Cpy_0 (by omega) a169 | exact Cpy_n (Cpy_eq a169 d9) (by omega) | exact Cpy_n (Cpy_eq a169 c9_122_0) (by omega) | exact Cpy_n (Cpy_eq a169 c9_48_0) (by omega) | exact Cpy_n (Cpy_eq a169 c9_168_0) (by omega) | omega) (by first | exact Cpy_0 (by omega) a170 | exact Cpy_n (Cpy_eq a170 d0) (by omega) | exact Cpy_n (Cpy_eq a170 c0_122_0) (by omega) | exact Cpy_n (Cpy_eq a170 c0_48_0) (by omega) | exact Cpy_n (Cpy_eq a170 c0_168_0) (by omega) | omega) (by first | exact Cpy_0 (by omega) a171 | exact Cpy_n (Cpy_eq a171 d1) (by omega) | exact Cpy_n (Cpy_eq a171 c1_122_0) (by omega) | exact Cpy_n (Cpy_eq a171 c1_48_0) (by omega) | exact Cpy_n (Cpy_eq a171 c1_168_0) (by omega) | omega) (by first | exact Cpy_0 (by omega) a172 | exact Cpy_n (Cpy_eq a172 d2) (by omega) | exact Cpy_n (Cpy_eq a172 c2_122_0) (by omega) | exact Cpy_n (Cpy_eq a172 c2_48_0) (by omega) | exact Cpy_n (Cpy_eq a172 c2_168_0) (by omega) | omega) (by omega)
          ·
            refine w_aload_n gz_191_129 rfl ?_
            refine w_getX (v := 172) gz_191_130 is_151 rd_10 rfl (by decide) rfl ?_
            refine w_bipush gz_191_133 (by decide) ?_
            refine w_iload_n gz_191_135 rfl ?_
            refine w_imul gz_191_136 ⟨by omega, by omega⟩ ?_
            refine w_iload gz_191_137 rfl ?_
            refine w_iadd gz_191_139 ⟨by omega, by omega⟩ ?_
            refine w_aload_n gz_191_140 rfl ?_
            refine w_getX (v := 172) gz_191_141 is_151 rd_10 rfl (by decide) rfl ?_
            refine w_bipush gz_191_144 (by decide) ?_
            refine w_iload gz_191_146 rfl ?_
            refine w_imul gz_191_148 ⟨by omega, by omega⟩ ?_
            refine w_iload gz_191_149 rfl ?_
            refine w_iadd gz_191_151 ⟨by omega, by omega⟩ ?_
            refine w_iald gz_191_152 is_172 rd_71 (by omega) (by omega) (fun v11 ev11 pv11 qv11 => ?_)
            refine w_iast gz_191_153 is_172 rd_71 (by omega) (by omega) (by omega) (by omega) (fun h12 fh12 => ?_)
            have gh12 : my_fr [(63, -1), (64, -1), (65, -1), (66, -1), (67, -1), (68, -1), (69, -1), (70, -1), (71, -1), (72, -1)] h h12 := my_fr.up gh_122_0 is_172 fh12 rfl
            have d2 := Cpy_s (n' := 8 * p48_0 + (p122_1 + 1)) c2_122_0 fh12 (by omega) (by omega) (by omega) (by omega) (by rw [show (288 : Int) + (8 * p48_0 + p122_1) = 8 * (p48_0 + 36) + p122_1 by omega]; omega)
            refine w_iinc (ls' := [(2, 151), (0, x1), (0, p48_0), (0, p122_0), (0, (p48_0 + 36)), (0, (p122_1 + 1))]) gz_191_154 rfl gm_191 rfl rfl rfl ⟨by omega, by omega⟩ ?_
            refine w_goto (t := 122) gz_191_157 rfl ?_
            have a164 : ∀ j : Int, h12 164 j = h122_0 164 j := fun j => ((my_up_role fh12 is_164 is_172 rfl).trans (rfl : h122_0 164 j = h122_0 164 j))
            have a165 : ∀ j : Int, h12 165 j = h122_0 165 j := fun j => ((my_up_role fh12 is_165 is_172 rfl).trans (rfl : h122_0 165 j = h122_0 165 j))
            have a166 : ∀ j : Int, h12 166 j = h122_0 166 j := fun j => ((my_up_role fh12 is_166 is_172 rfl).trans (rfl : h122_0 166 j = h122_0 166 j))
            have a167 : ∀ j : Int, h12 167 j = h122_0 167 j := fun j => ((my_up_role fh12 is_167 is_172 rfl).trans (rfl : h122_0 167 j = h122_0 167 j))
            have a168 : ∀ j : Int, h12 168 j = h122_0 168 j := fun j => ((my_up_role fh12 is_168 is_172 rfl).trans (rfl : h122_0 168 j = h122_0 168 j))
            have a169 : ∀ j : Int, h12 169 j = h122_0 169 j := fun j => ((my_up_role fh12 is_169 is_172 rfl).trans (rfl : h122_0 169 j = h122_0 169 j))
            have a170 : ∀ j : Int, h12 170 j = h122_0 170 j := fun j => ((my_up_role fh12 is_170 is_172 rfl).trans (rfl : h122_0 170 j = h122_0 170 j))
            have a171 : ∀ j : Int, h12 171 j = h122_0 171 j := fun j => ((my_up_role fh12 is_171 is_172 rfl).trans (rfl : h122_0 171 j = h122_0 171 j))
            have a172 : ∀ j : Int, h12 172 j = h12 172 j := fun j => rfl
            exact ih_122_0 (p122_0) ((p122_1 + 1)) h12 (gh12) (by omega) (by omega) (by omega) (by omega) (by omega) (((my_up_role fh12 is_151 is_172 rfl).trans c151_8_122_0).trans (by omega)) (by omega) (by omega) (by first | exact Put1_eq a164 p4 | exact Put1_eq a164 q4_122_0 | exact Put1_eq a164 q4_48_0 | exact Put1_eq a164 q4_168_0 | omega) (by first | exact Put1_eq a165 p5 | exact Put1_eq a165 q5_122_0 | exact Put1_eq a165 q5_48_0 | exact Put1_eq a165 q5_168_0 | omega) (by first | exact Put1_eq a166 p6 | exact Put1_eq a166 q6_122_0 | exact Put1_eq a166 q6_48_0 | exact Put1_eq a166 q6_168_0 | omega) (by first | exact Put1_eq a167 p7 | exact Put1_eq a167 q7_122_0 | exact Put1_eq a167 q7_48_0 | exact Put1_eq a167 q7_168_0 | omega) (by first | exact Cpy_0 (by omega) a168 | exact Cpy_n (Cpy_eq a168 d8) (by omega) | exact Cpy_n (Cpy_eq a168 c8_122_0) (by omega) | exact Cpy_n (Cpy_eq a168 c8_48_0) (by omega) | exact Cpy_n (Cpy_eq a168 c8_168_0) (by omega) | omega) (by first | exact Cpy_0 (by omega) a169 | exact Cpy_n (Cpy_eq a169 d9) (by omega) | exact Cpy_n (Cpy_eq a169 c9_122_0) (by omega) | exact Cpy_n (Cpy_eq a169 c9_48_0) (by omega) | exact Cpy_n (Cpy_eq a169 c9_168_0) (by omega) | omega) (by first | exact Cpy_0 (by omega) a170 | exact Cpy_n (Cpy_eq a170 d0) (by omega) | exact Cpy_n (Cpy_eq a170 c0_122_0) (by omega) | exact Cpy_n (Cpy_eq a170 c0_48_0) (by omega) | exact Cpy_n (Cpy_eq a170 c0_168_0) (by omega) | omega) (by first | exact Cpy_0 (by omega) a171 | exact Cpy_n (Cpy_eq a171 d1) (by omega) | exact Cpy_n (Cpy_eq a171 c1_122_0) (by omega) | exact Cpy_n (Cpy_eq a171 c1_48_0) (by omega) | exact Cpy_n (Cpy_eq a171 c1_168_0) (by omega) | omega) (by first | exact Cpy_0 (by omega) a172 | exact Cpy_n (Cpy_eq a172 d2) (by omega) | exact Cpy_n (Cpy_eq a172 c2_122_0) (by omega) | exact Cpy_n (Cpy_eq a172 c2_48_0) (by omega) | exact Cpy_n (Cpy_eq a172 c2_168_0) (by omega) | omega) (by omega)
      refine w_iload_n gz_191_48 rfl ?_
      refine w_bipush gz_191_49 (by decide) ?_
      refine w_icge (t := 166) gz_191_51 rfl (fun u13 => ?_) (fun u13 => ?_)
      ·
        refine w_iconst gz_191_166 (by decide) ?_
        refine w_istore_n (ls' := [(2, 151), (0, x1), (0, 0), (9, 0), (9, 0), (9, 0)]) gz_191_167 gm_191 rfl rfl rfl ?_
        have a164 : ∀ j : Int, h48_0 164 j = h48_0 164 j := fun _ => rfl
        have a165 : ∀ j : Int, h48_0 165 j = h48_0 165 j := fun _ => rfl
        have a166 : ∀ j : Int, h48_0 166 j = h48_0 166 j := fun _ => rfl
        have a167 : ∀ j : Int, h48_0 167 j = h48_0 167 j := fun _ => rfl
        have a168 : ∀ j : Int, h48_0 168 j = h48_0 168 j := fun _ => rfl
        have a169 : ∀ j : Int, h48_0 169 j = h48_0 169 j := fun _ => rfl
        have a170 : ∀ j : Int, h48_0 170 j = h48_0 170 j := fun _ => rfl
        have a171 : ∀ j : Int, h48_0 171 j = h48_0 171 j := fun _ => rfl
        have a172 : ∀ j : Int, h48_0 172 j = h48_0 172 j := fun _ => rfl
        exact J168_0 5 (0) h48_0 (gh_48_0) (by omega) (by omega) (c151_8_48_0.trans (by omega)) (by first | exact Put1_eq a164 p4 | exact Put1_eq a164 q4_122_0 | exact Put1_eq a164 q4_48_0 | exact Put1_eq a164 q4_168_0 | omega) (by first | exact Put1_eq a165 p5 | exact Put1_eq a165 q5_122_0 | exact Put1_eq a165 q5_48_0 | exact Put1_eq a165 q5_168_0 | omega) (by first | exact Put1_eq a166 p6 | exact Put1_eq a166 q6_122_0 | exact Put1_eq a166 q6_48_0 | exact Put1_eq a166 q6_168_0 | omega) (by first | exact Put1_eq a167 p7 | exact Put1_eq a167 q7_122_0 | exact Put1_eq a167 q7_48_0 | exact Put1_eq a167 q7_168_0 | omega) (by first | exact Cpy_0 (by omega) a168 | exact Cpy_n (Cpy_eq a168 d8) (by omega) | exact Cpy_n (Cpy_eq a168 c8_122_0) (by omega) | exact Cpy_n (Cpy_eq a168 c8_48_0) (by omega) | exact Cpy_n (Cpy_eq a168 c8_168_0) (by omega) | omega) (by first | exact Cpy_0 (by omega) a169 | exact Cpy_n (Cpy_eq a169 d9) (by omega) | exact Cpy_n (Cpy_eq a169 c9_122_0) (by omega) | exact Cpy_n (Cpy_eq a169 c9_48_0) (by omega) | exact Cpy_n (Cpy_eq a169 c9_168_0) (by omega) | omega) (by first | exact Cpy_0 (by omega) a170 | exact Cpy_n (Cpy_eq a170 d0) (by omega) | exact Cpy_n (Cpy_eq a170 c0_122_0) (by omega) | exact Cpy_n (Cpy_eq a170 c0_48_0) (by omega) | exact Cpy_n (Cpy_eq a170 c0_168_0) (by omega) | omega) (by first | exact Cpy_0 (by omega) a171 | exact Cpy_n (Cpy_eq a171 d1) (by omega) | exact Cpy_n (Cpy_eq a171 c1_122_0) (by omega) | exact Cpy_n (Cpy_eq a171 c1_48_0) (by omega) | exact Cpy_n (Cpy_eq a171 c1_168_0) (by omega) | omega) (by first | exact Cpy_0 (by omega) a172 | exact Cpy_n (Cpy_eq a172 d2) (by omega) | exact Cpy_n (Cpy_eq a172 c2_122_0) (by omega) | exact Cpy_n (Cpy_eq a172 c2_48_0) (by omega) | exact Cpy_n (Cpy_eq a172 c2_168_0) (by omega) | omega) (by omega)
      ·
        refine w_bipush gz_191_54 (by decide) ?_
        refine w_iload_n gz_191_56 rfl ?_
        refine w_imul gz_191_57 ⟨by omega, by omega⟩ ?_
        refine w_iload_n gz_191_58 rfl ?_
        refine w_iadd gz_191_59 ⟨by omega, by omega⟩ ?_
        refine w_istore_n (ls' := [(2, 151), (0, x1), (0, p48_0), (0, ((6 * x1) + p48_0)), (9, 0), (9, 0)]) gz_191_60 gm_191 rfl rfl rfl ?_
        refine w_bipush gz_191_61 (by decide) ?_
        refine w_iload_n gz_191_63 rfl ?_
        refine w_iadd gz_191_64 ⟨by omega, by omega⟩ ?_
        refine w_istore (ls' := [(2, 151), (0, x1), (0, p48_0), (0, ((6 * x1) + p48_0)), (0, (36 + p48_0)), (9, 0)]) gz_191_65 gm_191 rfl rfl rfl ?_
        refine w_aload_n gz_191_67 rfl ?_
        refine w_getX (v := 168) gz_191_68 is_151 rd_10 rfl (by decide) rfl ?_
        refine w_iload_n gz_191_71 rfl ?_
        refine w_aload_n gz_191_72 rfl ?_
        refine w_getX (v := 168) gz_191_73 is_151 rd_10 rfl (by decide) rfl ?_
        refine w_iload gz_191_76 rfl ?_
        refine w_iald gz_191_78 is_168 rd_67 (by omega) (by omega) (fun v16 ev16 pv16 qv16 => ?_)
        have b168 : ∀ j : Int, h48_0 168 j = h48_0 168 j := fun _ => rfl
        refine w_iast gz_191_79 is_168 rd_67 (by omega) (by omega) (by omega) (by omega) (fun h17 fh17 => ?_)
        have gh17 : my_fr [(63, -1), (64, -1), (65, -1), (66, -1), (67, -1), (68, -1), (69, -1), (70, -1), (71, -1), (72, -1)] h h17 := my_fr.up gh_48_0 is_168 fh17 rfl
        have d8 := Cpy_s (n' := p48_0 + 1) (Cpy_eq b168 c8_48_0) fh17 (by omega) (by omega) rfl (by omega) (by omega)
        refine w_aload_n gz_191_80 rfl ?_
        refine w_getX (v := 169) gz_191_81 is_151 rd_10 rfl (by decide) rfl ?_
        refine w_iload_n gz_191_84 rfl ?_
        refine w_aload_n gz_191_85 rfl ?_
        refine w_getX (v := 169) gz_191_86 is_151 rd_10 rfl (by decide) rfl ?_
        refine w_iload gz_191_89 rfl ?_
        refine w_iald gz_191_91 is_169 rd_68 (by omega) (by omega) (fun v20 ev20 pv20 qv20 => ?_)
        have b169 : ∀ j : Int, h17 169 j = h48_0 169 j := fun j => ((my_up_role fh17 is_169 is_168 rfl).trans (rfl : h48_0 169 j = h48_0 169 j))
        refine w_iast gz_191_92 is_169 rd_68 (by omega) (by omega) (by omega) (by omega) (fun h21 fh21 => ?_)
        have gh21 : my_fr [(63, -1), (64, -1), (65, -1), (66, -1), (67, -1), (68, -1), (69, -1), (70, -1), (71, -1), (72, -1)] h h21 := my_fr.up gh17 is_169 fh21 rfl
        have d9 := Cpy_s (n' := p48_0 + 1) (Cpy_eq b169 c9_48_0) fh21 (by omega) (by omega) rfl (by omega) (by omega)
        refine w_aload_n gz_191_93 rfl ?_
        refine w_getX (v := 170) gz_191_94 is_151 rd_10 rfl (by decide) rfl ?_
        refine w_iload_n gz_191_97 rfl ?_
        refine w_aload_n gz_191_98 rfl ?_
        refine w_getX (v := 170) gz_191_99 is_151 rd_10 rfl (by decide) rfl ?_
        refine w_iload gz_191_102 rfl ?_
        refine w_iald gz_191_104 is_170 rd_69 (by omega) (by omega) (fun v24 ev24 pv24 qv24 => ?_)
        have b170 : ∀ j : Int, h21 170 j = h48_0 170 j := fun j => ((my_up_role fh21 is_170 is_169 rfl).trans ((my_up_role fh17 is_170 is_168 rfl).trans (rfl : h48_0 170 j = h48_0 170 j)))
        refine w_iast gz_191_105 is_170 rd_69 (by omega) (by omega) (by omega) (by omega) (fun h25 fh25 => ?_)
        have gh25 : my_fr [(63, -1), (64, -1), (65, -1), (66, -1), (67, -1), (68, -1), (69, -1), (70, -1), (71, -1), (72, -1)] h h25 := my_fr.up gh21 is_170 fh25 rfl
        have d0 := Cpy_s (n' := p48_0 + 1) (Cpy_eq b170 c0_48_0) fh25 (by omega) (by omega) rfl (by omega) (by omega)
        refine w_aload_n gz_191_106 rfl ?_
        refine w_getX (v := 171) gz_191_107 is_151 rd_10 rfl (by decide) rfl ?_
        refine w_iload_n gz_191_110 rfl ?_
        refine w_aload_n gz_191_111 rfl ?_
        refine w_getX (v := 171) gz_191_112 is_151 rd_10 rfl (by decide) rfl ?_
        refine w_iload gz_191_115 rfl ?_
        refine w_iald gz_191_117 is_171 rd_70 (by omega) (by omega) (fun v28 ev28 pv28 qv28 => ?_)
        have b171 : ∀ j : Int, h25 171 j = h48_0 171 j := fun j => ((my_up_role fh25 is_171 is_170 rfl).trans ((my_up_role fh21 is_171 is_169 rfl).trans ((my_up_role fh17 is_171 is_168 rfl).trans (rfl : h48_0 171 j = h48_0 171 j))))
        refine w_iast gz_191_118 is_171 rd_70 (by omega) (by omega) (by omega) (by omega) (fun h29 fh29 => ?_)
        have gh29 : my_fr [(63, -1), (64, -1), (65, -1), (66, -1), (67, -1), (68, -1), (69, -1), (70, -1), (71, -1), (72, -1)] h h29 := my_fr.up gh25 is_171 fh29 rfl
        have d1 := Cpy_s (n' := p48_0 + 1) (Cpy_eq b171 c1_48_0) fh29 (by omega) (by omega) rfl (by omega) (by omega)
        refine w_iconst gz_191_119 (by decide) ?_
        refine w_istore (ls' := [(2, 151), (0, x1), (0, p48_0), (0, ((6 * x1) + p48_0)), (0, (36 + p48_0)), (0, 0)]) gz_191_120 gm_191 rfl rfl rfl ?_
        have a164 : ∀ j : Int, h29 164 j = h48_0 164 j := fun j => ((my_up_role fh29 is_164 is_171 rfl).trans ((my_up_role fh25 is_164 is_170 rfl).trans ((my_up_role fh21 is_164 is_169 rfl).trans ((my_up_role fh17 is_164 is_168 rfl).trans (rfl : h48_0 164 j = h48_0 164 j)))))
        have a165 : ∀ j : Int, h29 165 j = h48_0 165 j := fun j => ((my_up_role fh29 is_165 is_171 rfl).trans ((my_up_role fh25 is_165 is_170 rfl).trans ((my_up_role fh21 is_165 is_169 rfl).trans ((my_up_role fh17 is_165 is_168 rfl).trans (rfl : h48_0 165 j = h48_0 165 j)))))
        have a166 : ∀ j : Int, h29 166 j = h48_0 166 j := fun j => ((my_up_role fh29 is_166 is_171 rfl).trans ((my_up_role fh25 is_166 is_170 rfl).trans ((my_up_role fh21 is_166 is_169 rfl).trans ((my_up_role fh17 is_166 is_168 rfl).trans (rfl : h48_0 166 j = h48_0 166 j)))))
        have a167 : ∀ j : Int, h29 167 j = h48_0 167 j := fun j => ((my_up_role fh29 is_167 is_171 rfl).trans ((my_up_role fh25 is_167 is_170 rfl).trans ((my_up_role fh21 is_167 is_169 rfl).trans ((my_up_role fh17 is_167 is_168 rfl).trans (rfl : h48_0 167 j = h48_0 167 j)))))
        have a168 : ∀ j : Int, h29 168 j = h17 168 j := fun j => ((my_up_role fh29 is_168 is_171 rfl).trans ((my_up_role fh25 is_168 is_170 rfl).trans ((my_up_role fh21 is_168 is_169 rfl).trans (rfl : h17 168 j = h17 168 j))))
        have a169 : ∀ j : Int, h29 169 j = h21 169 j := fun j => ((my_up_role fh29 is_169 is_171 rfl).trans ((my_up_role fh25 is_169 is_170 rfl).trans (rfl : h21 169 j = h21 169 j)))
        have a170 : ∀ j : Int, h29 170 j = h25 170 j := fun j => ((my_up_role fh29 is_170 is_171 rfl).trans (rfl : h25 170 j = h25 170 j))
        have a171 : ∀ j : Int, h29 171 j = h29 171 j := fun j => rfl
        have a172 : ∀ j : Int, h29 172 j = h48_0 172 j := fun j => ((my_up_role fh29 is_172 is_171 rfl).trans ((my_up_role fh25 is_172 is_170 rfl).trans ((my_up_role fh21 is_172 is_169 rfl).trans ((my_up_role fh17 is_172 is_168 rfl).trans (rfl : h48_0 172 j = h48_0 172 j)))))
        rw [show ((36 + p48_0) : Int) = (p48_0 + 36) from by omega]
        exact J122_0 9 (((6 * x1) + p48_0)) (0) h29 (gh29) (by omega) (by omega) (by omega) (by omega) (by omega) (((my_up_role fh29 is_151 is_171 rfl).trans ((my_up_role fh25 is_151 is_170 rfl).trans ((my_up_role fh21 is_151 is_169 rfl).trans ((my_up_role fh17 is_151 is_168 rfl).trans c151_8_48_0)))).trans (by omega)) (by omega) (by omega) (by first | exact Put1_eq a164 p4 | exact Put1_eq a164 q4_122_0 | exact Put1_eq a164 q4_48_0 | exact Put1_eq a164 q4_168_0 | omega) (by first | exact Put1_eq a165 p5 | exact Put1_eq a165 q5_122_0 | exact Put1_eq a165 q5_48_0 | exact Put1_eq a165 q5_168_0 | omega) (by first | exact Put1_eq a166 p6 | exact Put1_eq a166 q6_122_0 | exact Put1_eq a166 q6_48_0 | exact Put1_eq a166 q6_168_0 | omega) (by first | exact Put1_eq a167 p7 | exact Put1_eq a167 q7_122_0 | exact Put1_eq a167 q7_48_0 | exact Put1_eq a167 q7_168_0 | omega) (by first | exact Cpy_0 (by omega) a168 | exact Cpy_n (Cpy_eq a168 d8) (by omega) | exact Cpy_n (Cpy_eq a168 c8_122_0) (by omega) | exact Cpy_n (Cpy_eq a168 c8_48_0) (by omega) | exact Cpy_n (Cpy_eq a168 c8_168_0) (by omega) | omega) (by first | exact Cpy_0 (by omega) a169 | exact Cpy_n (Cpy_eq a169 d9) (by omega) | exact Cpy_n (Cpy_eq a169 c9_122_0) (by omega) | exact Cpy_n (Cpy_eq a169 c9_48_0) (by omega) | exact Cpy_n (Cpy_eq a169 c9_168_0) (by omega) | omega) (by first | exact Cpy_0 (by omega) a170 | exact Cpy_n (Cpy_eq a170 d0) (by omega) | exact Cpy_n (Cpy_eq a170 c0_122_0) (by omega) | exact Cpy_n (Cpy_eq a170 c0_48_0) (by omega) | exact Cpy_n (Cpy_eq a170 c0_168_0) (by omega) | omega) (by first | exact Cpy_0 (by omega) a171 | exact Cpy_n (Cpy_eq a171 d1) (by omega) | exact Cpy_n (Cpy_eq a171 c1_122_0) (by omega) | exact Cpy_n (Cpy_eq a171 c1_48_0) (by omega) | exact Cpy_n (Cpy_eq a171 c1_168_0) (by omega) | omega) (by first | exact Cpy_0 (by omega) a172 | exact Cpy_n (Cpy_eq a172 d2) (by omega) | exact Cpy_n (Cpy_eq a172 c2_122_0) (by omega) | exact Cpy_n (Cpy_eq a172 c2_48_0) (by omega) | exact Cpy_n (Cpy_eq a172 c2_168_0) (by omega) | omega) (by omega)
  refine w_aload_n gz_191_0 rfl ?_
  refine w_getX (v := 164) gz_191_1 is_151 rd_10 rfl (by decide) rfl ?_
  refine w_iload_n gz_191_4 rfl ?_
  refine w_iconst gz_191_5 (by decide) ?_
  refine w_bast gz_191_6 is_164 rd_63 (by omega) (by omega) (by omega) (by omega) (fun h31 fh31 => ?_)
  have gh31 : my_fr [(63, -1), (64, -1), (65, -1), (66, -1), (67, -1), (68, -1), (69, -1), (70, -1), (71, -1), (72, -1)] h h31 := my_fr.up my_fr.rf is_164 fh31 rfl
  have p4 := Put1_up fh31
  refine w_aload_n gz_191_7 rfl ?_
  refine w_getX (v := 165) gz_191_8 is_151 rd_10 rfl (by decide) rfl ?_
  refine w_iload_n gz_191_11 rfl ?_
  refine w_aload_n gz_191_12 rfl ?_
  refine w_getX (v := 165) gz_191_13 is_151 rd_10 rfl (by decide) rfl ?_
  refine w_bipush gz_191_16 (by decide) ?_
  refine w_bald gz_191_18 is_165 rd_64 (by omega) (by omega) (fun v34 ev34 pv34 qv34 => ?_)
  have b165 : ∀ j : Int, h31 165 j = h 165 j := fun j => ((my_up_role fh31 is_165 is_164 rfl).trans (rfl : h 165 j = h 165 j))
  refine w_bast gz_191_19 is_165 rd_64 (by omega) (by omega) (by omega) (by omega) (fun h35 fh35 => ?_)
  have gh35 : my_fr [(63, -1), (64, -1), (65, -1), (66, -1), (67, -1), (68, -1), (69, -1), (70, -1), (71, -1), (72, -1)] h h35 := my_fr.up gh31 is_165 fh35 rfl
  have p5 := Put1_of (v' := h 165 6) fh35 b165 (by have q := b165 6; omega)
  refine w_aload_n gz_191_20 rfl ?_
  refine w_getX (v := 166) gz_191_21 is_151 rd_10 rfl (by decide) rfl ?_
  refine w_iload_n gz_191_24 rfl ?_
  refine w_aload_n gz_191_25 rfl ?_
  refine w_getX (v := 166) gz_191_26 is_151 rd_10 rfl (by decide) rfl ?_
  refine w_bipush gz_191_29 (by decide) ?_
  refine w_iald gz_191_31 is_166 rd_65 (by omega) (by omega) (fun v38 ev38 pv38 qv38 => ?_)
  have b166 : ∀ j : Int, h35 166 j = h 166 j := fun j => ((my_up_role fh35 is_166 is_165 rfl).trans ((my_up_role fh31 is_166 is_164 rfl).trans (rfl : h 166 j = h 166 j)))
  refine w_iast gz_191_32 is_166 rd_65 (by omega) (by omega) (by omega) (by omega) (fun h39 fh39 => ?_)
  have gh39 : my_fr [(63, -1), (64, -1), (65, -1), (66, -1), (67, -1), (68, -1), (69, -1), (70, -1), (71, -1), (72, -1)] h h39 := my_fr.up gh35 is_166 fh39 rfl
  have p6 := Put1_of (v' := h 166 6) fh39 b166 (by have q := b166 6; omega)
  refine w_aload_n gz_191_33 rfl ?_
  refine w_getX (v := 167) gz_191_34 is_151 rd_10 rfl (by decide) rfl ?_
  refine w_iload_n gz_191_37 rfl ?_
  refine w_aload_n gz_191_38 rfl ?_
  refine w_getX (v := 167) gz_191_39 is_151 rd_10 rfl (by decide) rfl ?_
  refine w_bipush gz_191_42 (by decide) ?_
  refine w_iald gz_191_44 is_167 rd_66 (by omega) (by omega) (fun v42 ev42 pv42 qv42 => ?_)
  have b167 : ∀ j : Int, h39 167 j = h 167 j := fun j => ((my_up_role fh39 is_167 is_166 rfl).trans ((my_up_role fh35 is_167 is_165 rfl).trans ((my_up_role fh31 is_167 is_164 rfl).trans (rfl : h 167 j = h 167 j))))
  refine w_iast gz_191_45 is_167 rd_66 (by omega) (by omega) (by omega) (by omega) (fun h43 fh43 => ?_)
  have gh43 : my_fr [(63, -1), (64, -1), (65, -1), (66, -1), (67, -1), (68, -1), (69, -1), (70, -1), (71, -1), (72, -1)] h h43 := my_fr.up gh39 is_167 fh43 rfl
  have p7 := Put1_of (v' := h 167 6) fh43 b167 (by have q := b167 6; omega)
  refine w_iconst gz_191_46 (by decide) ?_
  refine w_istore_n (ls' := [(2, 151), (0, x1), (0, 0), (9, 0), (9, 0), (9, 0)]) gz_191_47 gm_191 rfl rfl rfl ?_
  have a164 : ∀ j : Int, h43 164 j = h31 164 j := fun j => ((my_up_role fh43 is_164 is_167 rfl).trans ((my_up_role fh39 is_164 is_166 rfl).trans ((my_up_role fh35 is_164 is_165 rfl).trans (rfl : h31 164 j = h31 164 j))))
  have a165 : ∀ j : Int, h43 165 j = h35 165 j := fun j => ((my_up_role fh43 is_165 is_167 rfl).trans ((my_up_role fh39 is_165 is_166 rfl).trans (rfl : h35 165 j = h35 165 j)))
  have a166 : ∀ j : Int, h43 166 j = h39 166 j := fun j => ((my_up_role fh43 is_166 is_167 rfl).trans (rfl : h39 166 j = h39 166 j))
  have a167 : ∀ j : Int, h43 167 j = h43 167 j := fun j => rfl
  have a168 : ∀ j : Int, h43 168 j = h 168 j := fun j => ((my_up_role fh43 is_168 is_167 rfl).trans ((my_up_role fh39 is_168 is_166 rfl).trans ((my_up_role fh35 is_168 is_165 rfl).trans ((my_up_role fh31 is_168 is_164 rfl).trans (rfl : h 168 j = h 168 j)))))
  have a169 : ∀ j : Int, h43 169 j = h 169 j := fun j => ((my_up_role fh43 is_169 is_167 rfl).trans ((my_up_role fh39 is_169 is_166 rfl).trans ((my_up_role fh35 is_169 is_165 rfl).trans ((my_up_role fh31 is_169 is_164 rfl).trans (rfl : h 169 j = h 169 j)))))
  have a170 : ∀ j : Int, h43 170 j = h 170 j := fun j => ((my_up_role fh43 is_170 is_167 rfl).trans ((my_up_role fh39 is_170 is_166 rfl).trans ((my_up_role fh35 is_170 is_165 rfl).trans ((my_up_role fh31 is_170 is_164 rfl).trans (rfl : h 170 j = h 170 j)))))
  have a171 : ∀ j : Int, h43 171 j = h 171 j := fun j => ((my_up_role fh43 is_171 is_167 rfl).trans ((my_up_role fh39 is_171 is_166 rfl).trans ((my_up_role fh35 is_171 is_165 rfl).trans ((my_up_role fh31 is_171 is_164 rfl).trans (rfl : h 171 j = h 171 j)))))
  have a172 : ∀ j : Int, h43 172 j = h 172 j := fun j => ((my_up_role fh43 is_172 is_167 rfl).trans ((my_up_role fh39 is_172 is_166 rfl).trans ((my_up_role fh35 is_172 is_165 rfl).trans ((my_up_role fh31 is_172 is_164 rfl).trans (rfl : h 172 j = h 172 j)))))
  exact J48_0 7 (0) h43 (gh43) (by omega) (by omega) (((my_up_role fh43 is_151 is_167 rfl).trans ((my_up_role fh39 is_151 is_166 rfl).trans ((my_up_role fh35 is_151 is_165 rfl).trans ((my_up_role fh31 is_151 is_164 rfl).trans cf)))).trans (by omega)) (by first | exact Put1_eq a164 p4 | exact Put1_eq a164 q4_122_0 | exact Put1_eq a164 q4_48_0 | exact Put1_eq a164 q4_168_0 | omega) (by first | exact Put1_eq a165 p5 | exact Put1_eq a165 q5_122_0 | exact Put1_eq a165 q5_48_0 | exact Put1_eq a165 q5_168_0 | omega) (by first | exact Put1_eq a166 p6 | exact Put1_eq a166 q6_122_0 | exact Put1_eq a166 q6_48_0 | exact Put1_eq a166 q6_168_0 | omega) (by first | exact Put1_eq a167 p7 | exact Put1_eq a167 q7_122_0 | exact Put1_eq a167 q7_48_0 | exact Put1_eq a167 q7_168_0 | omega) (by first | exact Cpy_0 (by omega) a168 | exact Cpy_n (Cpy_eq a168 d8) (by omega) | exact Cpy_n (Cpy_eq a168 c8_122_0) (by omega) | exact Cpy_n (Cpy_eq a168 c8_48_0) (by omega) | exact Cpy_n (Cpy_eq a168 c8_168_0) (by omega) | omega) (by first | exact Cpy_0 (by omega) a169 | exact Cpy_n (Cpy_eq a169 d9) (by omega) | exact Cpy_n (Cpy_eq a169 c9_122_0) (by omega) | exact Cpy_n (Cpy_eq a169 c9_48_0) (by omega) | exact Cpy_n (Cpy_eq a169 c9_168_0) (by omega) | omega) (by first | exact Cpy_0 (by omega) a170 | exact Cpy_n (Cpy_eq a170 d0) (by omega) | exact Cpy_n (Cpy_eq a170 c0_122_0) (by omega) | exact Cpy_n (Cpy_eq a170 c0_48_0) (by omega) | exact Cpy_n (Cpy_eq a170 c0_168_0) (by omega) | omega) (by first | exact Cpy_0 (by omega) a171 | exact Cpy_n (Cpy_eq a171 d1) (by omega) | exact Cpy_n (Cpy_eq a171 c1_122_0) (by omega) | exact Cpy_n (Cpy_eq a171 c1_48_0) (by omega) | exact Cpy_n (Cpy_eq a171 c1_168_0) (by omega) | omega) (by first | exact Cpy_0 (by omega) a172 | exact Cpy_n (Cpy_eq a172 d2) (by omega) | exact Cpy_n (Cpy_eq a172 c2_122_0) (by omega) | exact Cpy_n (Cpy_eq a172 c2_48_0) (by omega) | exact Cpy_n (Cpy_eq a172 c2_168_0) (by omega) | omega) (by omega)
theorem c_Model_begins2 {l : Launch} {rho : Nat → Int32} {d : Nat} {h : my_H} {Q : my_H → my_V → Prop} {x1 : Int} (a1 : 0 ≤ x1) (b1 : x1 ≤ 15) (n_Rws : Rws h) (k0 : ∀ (h' : my_H), my_fr [(10, 37), (80, -1), (81, -1), (82, -1)] h h' → Shn h' 0 (h' 151 37) (h 157 (h 151 33)) 19 → Q h' (9, 0)) : wp l rho (d + 2) 195 0 [(2, 151), (0, x1), (9, 0), (9, 0)] [] h Q := by
  refine v_know (x := 151) (j := 33) (b := 33) rfl is_151 rd_10 rfl (fun k151_33 ek151_33 pk151_33 qk151_33 => ?_)
  refine v_knowA (x := 162) is_162 rd_61 (fun kT => ?_)
  have J7_0 : ∀ (n : Nat) (p7_0 p7_1 : Int) (h7_0 : my_H), my_fr [(10, 37), (80, -1), (81, -1), (82, -1)] h h7_0 → 0 ≤ p7_0 → p7_0 ≤ 20 → 0 ≤ p7_1 → p7_1 ≤ 10 → p7_1 ≤ p7_0 → h7_0 151 33 = k151_33 → h7_0 151 37 = p7_1 → Rws h7_0 → h7_0 151 37 = rc h (60 * x1 + 20 * k151_33) p7_0.toNat → Shn h7_0 0 (h7_0 151 37) (h 157 k151_33) 19 → 21 - p7_0 ≤ (n : Int) → wp l rho (d + 2) 195 7 [(2, 151), (0, x1), (0, p7_0), (9, 0)] [] h7_0 Q := by
    intro n
    induction n with
    | zero => intro p7_0 p7_1 h7_0 gh_7_0 q0_7_0 q1_7_0 q2_7_0 q3_7_0 q4_7_0 c151_33_7_0 c151_37_7_0 n_Rws_7_0 rm_7_0 sh_7_0 hm_7_0; exfalso; omega
    | succ n ih_7_0 =>
      intro p7_0 p7_1 h7_0 gh_7_0 q0_7_0 q1_7_0 q2_7_0 q3_7_0 q4_7_0 c151_33_7_0 c151_37_7_0 n_Rws_7_0 rm_7_0 sh_7_0 hm_7_0
      have J42_0 : ∀ (n : Nat) (p42_0 : Int) (h42_0 : my_H), my_fr [(10, 37), (80, -1), (81, -1), (82, -1)] h h42_0 → p7_0 ≤ 19 → 0 ≤ p42_0 → p42_0 ≤ 4 → p7_1 ≤ 9 → p7_1 ≤ p7_0 → h42_0 151 33 = k151_33 → h42_0 151 37 = p7_1 → Rws h42_0 → h 162 (60 * x1 + 20 * k151_33 + p7_0) = 1 → h42_0 151 37 = rc h (60 * x1 + 20 * k151_33) p7_0.toNat → Shn h42_0 0 (h42_0 151 37) (h 157 k151_33) 19 → (∀ c : Int, 0 ≤ c → c < p42_0 → h42_0 182 (8 * (h42_0 151 37) + c) ≤ 19) → 5 - p42_0 ≤ (n : Int) → wp l rho (d + 2) 195 42 [(2, 151), (0, x1), (0, p7_0), (0, p42_0)] [] h42_0 Q := by
        intro n
        induction n with
        | zero => intro p42_0 h42_0 gh_42_0 q0_42_0 q1_42_0 q2_42_0 q3_42_0 q4_42_0 c151_33_42_0 c151_37_42_0 n_Rws_42_0 one_42_0 rm_42_0 sh_42_0 sr_42_0 hm_42_0; exfalso; omega
        | succ n ih_42_0 =>
          intro p42_0 h42_0 gh_42_0 q0_42_0 q1_42_0 q2_42_0 q3_42_0 q4_42_0 c151_33_42_0 c151_37_42_0 n_Rws_42_0 one_42_0 rm_42_0 sh_42_0 sr_42_0 hm_42_0
          refine w_iload_n gz_195_42 rfl ?_
          refine w_aload_n gz_195_43 rfl ?_
          refine w_getX (v := 157) gz_195_44 is_151 rd_10 rfl (by decide) rfl ?_
          refine w_aload_n gz_195_47 rfl ?_
          refine v_getI (j := 33) gz_195_48 rfl is_151 rd_10 rfl (fun v2 ev2 pv2 qv2 => ?_)
          have zv2 := ev2.trans c151_33_42_0
          have e48 : v2 = k151_33 := by omega
          refine w_iald gz_195_51 is_157 rd_56 (by omega) (by omega) (fun v3 ev3 pv3 qv3 => ?_)
          have f157 : ∀ j : Int, h42_0 157 j = h 157 j := fun j => my_fr.at gh_42_0 is_157 rfl
          have c51 : v3 = h 157 k151_33 := by rw [← e48, ← f157]; omega
          refine w_icge (t := 101) gz_195_52 rfl (fun u4 => ?_) (fun u4 => ?_)
          ·
            refine w_aload_n gz_195_101 rfl ?_
            refine w_dup gz_195_102 rfl ?_
            refine v_getI (j := 37) gz_195_103 rfl is_151 rd_10 rfl (fun v5 ev5 pv5 qv5 => ?_)
            have zv5 := ev5.trans c151_37_42_0
            refine w_iconst gz_195_106 (by decide) ?_
            refine w_iadd gz_195_107 ⟨by omega, by omega⟩ ?_
            refine v_putI (j := 37) gz_195_108 rfl is_151 rd_10 rfl (by omega) (by omega) rfl (fun h6 fh6 => ?_)
            have gh6 : my_fr [(10, 37), (80, -1), (81, -1), (82, -1)] h h6 := my_fr.up gh_42_0 is_151 fh6 rfl
            have Rws_h6 : Rws h6 := Rws_ag (my_ag.up fh6 is_151 rfl) n_Rws_42_0
            have k37 := my_up_self fh6
            refine w_iinc (ls' := [(2, 151), (0, x1), (0, (p7_0 + 1)), (0, p42_0)]) gz_195_111 rfl gm_195 rfl rfl rfl ⟨by omega, by omega⟩ ?_
            refine w_goto (t := 7) gz_195_114 rfl ?_
            have ce7 : h6 151 37 = (v5 + 1) := (my_up_self fh6)
            have a182 : ∀ j : Int, h6 182 j = h42_0 182 j := fun j => ((my_up_role fh6 is_182 is_151 rfl).trans (rfl : h42_0 182 j = h42_0 182 j))
            refine w_weak (ls' := [(2, 151), (0, x1), (0, (p7_0 + 1)), (9, 0)]) (wk_e (wk_e (wk_e (wk_9 wk_n)))) ?_
            exact ih_7_0 ((p7_0 + 1)) ((v5 + 1)) h6 (gh6) (by omega) (by omega) (by omega) (by omega) (by omega) (((my_up_fld fh6 (by decide)).trans ev2.symm).trans (by omega)) ((my_up_self fh6).trans (by omega)) Rws_h6 (by first | omega | (rw [rc_at (by omega)]; omega) | (show _ = (0 : Int); omega) | omega) (by first | (intro i c a b; exfalso; omega) | exact Shn_V (Shn_eq a182 sh_7_0) (by omega) (by omega) (by omega) (by omega) | exact Shn_V (Shn_eq a182 (Shn_up sh_42_0 f79 (by omega) (by omega))) (by omega) (by omega) (by omega) (by omega) | exact Shn_V (Shn_eq a182 (Shn_row sh_42_0 (fun c c0 cw => sr_42_0 c c0 (by omega)))) (by omega) (by omega) (by omega) (by omega) | omega) (by omega)
          ·
            refine w_aload_n gz_195_55 rfl ?_
            refine w_getX (v := 182) gz_195_56 is_151 rd_10 rfl (by decide) rfl ?_
            refine w_bipush gz_195_59 (by decide) ?_
            refine w_aload_n gz_195_61 rfl ?_
            refine v_getI (j := 37) gz_195_62 rfl is_151 rd_10 rfl (fun v9 ev9 pv9 qv9 => ?_)
            have zv9 := ev9.trans c151_37_42_0
            refine w_imul gz_195_65 ⟨by omega, by omega⟩ ?_
            refine w_iload_n gz_195_66 rfl ?_
            refine w_iadd gz_195_67 ⟨by omega, by omega⟩ ?_
            refine w_aload_n gz_195_68 rfl ?_
            refine w_iload_n gz_195_69 rfl ?_
            refine w_aload_n gz_195_70 rfl ?_
            refine v_getI (j := 33) gz_195_71 rfl is_151 rd_10 rfl (fun v10 ev10 pv10 qv10 => ?_)
            have zv10 := ev10.trans ev2.symm
            refine w_iload_n gz_195_74 rfl ?_
            refine w_iload_n gz_195_75 rfl ?_
            refine w_inv (k := 0) (as := [(0, p42_0), (0, p7_0), (0, v10), (0, x1)]) (r := [(0, ((8 * v9) + p42_0)), (2, 182)]) (x := 151) (ls0 := [(2, 151), (0, x1), (0, v10), (0, p7_0), (0, p42_0)]) gz_195_76 gm_157 rfl is_151 rd_10 rfl rfl rfl rfl rfl ?_
            refine w_aload_n gz_157_0 rfl ?_
            refine w_getX (v := 163) gz_157_1 is_151 rd_10 rfl (by decide) rfl ?_
            refine w_iconst gz_157_4 (by decide) ?_
            refine w_iload_n gz_157_5 rfl ?_
            refine w_iload_n gz_157_6 rfl ?_
            refine w_iload_n gz_157_7 rfl ?_
            refine w_inS (k := 0) (as := [(0, p7_0), (0, v10), (0, x1)]) (r := [(0, 4), (2, 163)]) (ls0 := [(0, x1), (0, v10), (0, p7_0)]) gz_157_8 gm_150 rfl rfl rfl rfl rfl rfl ?_
            refine w_bipush gz_150_0 (by decide) ?_
            refine w_iload_n gz_150_2 rfl ?_
            refine w_imul gz_150_3 ⟨by omega, by omega⟩ ?_
            refine w_bipush gz_150_4 (by decide) ?_
            refine w_iload_n gz_150_6 rfl ?_
            refine w_imul gz_150_7 ⟨by omega, by omega⟩ ?_
            refine w_iadd gz_150_8 ⟨by omega, by omega⟩ ?_
            refine w_iload_n gz_150_9 rfl ?_
            refine w_iadd gz_150_10 ⟨by omega, by omega⟩ ?_
            refine w_iret gz_150_11 gm_150 ?_
            show wp l rho (d + 1) 157 11 [(2, 151), (0, x1), (0, v10), (0, p7_0), (0, p42_0)] [(0, (((60 * x1) + (20 * v10)) + p7_0)), (0, 4), (2, 163)] h42_0 _
            refine w_imul gz_157_11 ⟨by omega, by omega⟩ ?_
            refine w_iload gz_157_12 rfl ?_
            refine w_iadd gz_157_14 ⟨by omega, by omega⟩ ?_
            refine w_iald gz_157_15 is_163 rd_62 (by omega) (by omega) (fun v12 ev12 pv12 qv12 => ?_)
            refine w_iret gz_157_16 gm_157 ?_
            show wp l rho (d + 2) 195 79 [(2, 151), (0, x1), (0, p7_0), (0, p42_0)] [(0, v12), (0, ((8 * v9) + p42_0)), (2, 182)] h42_0 Q
            refine w_iast gz_195_79 is_182 rd_81 (by omega) (by omega) (by omega) (by omega) (fun h13 fh13 => ?_)
            have gh13 : my_fr [(10, 37), (80, -1), (81, -1), (82, -1)] h h13 := my_fr.up gh_42_0 is_182 fh13 rfl
            have Rws_h13 : Rws h13 := Rws_ag (my_ag.up fh13 is_182 rfl) n_Rws_42_0
            have f79 := fh13
            have k79 := my_up_self fh13
            refine w_aload_n gz_195_80 rfl ?_
            refine w_getX (v := 183) gz_195_81 is_151 rd_10 rfl (by decide) rfl ?_
            refine w_bipush gz_195_84 (by decide) ?_
            refine w_aload_n gz_195_86 rfl ?_
            refine v_getI (j := 37) gz_195_87 rfl is_151 rd_10 rfl (fun v15 ev15 pv15 qv15 => ?_)
            have zv15 := ev15.trans ((my_up_role fh13 is_151 is_182 rfl).trans ev9.symm)
            refine w_imul gz_195_90 ⟨by omega, by omega⟩ ?_
            refine w_iload_n gz_195_91 rfl ?_
            refine w_iadd gz_195_92 ⟨by omega, by omega⟩ ?_
            refine w_iload_n gz_195_93 rfl ?_
            refine w_iast gz_195_94 is_183 rd_82 (by omega) (by omega) (by omega) (by omega) (fun h16 fh16 => ?_)
            have gh16 : my_fr [(10, 37), (80, -1), (81, -1), (82, -1)] h h16 := my_fr.up gh13 is_183 fh16 rfl
            have Rws_h16 : Rws h16 := Rws_ag (my_ag.up fh16 is_183 rfl) Rws_h13
            refine w_iinc (ls' := [(2, 151), (0, x1), (0, p7_0), (0, (p42_0 + 1))]) gz_195_95 rfl gm_195 rfl rfl rfl ⟨by omega, by omega⟩ ?_
            refine w_goto (t := 42) gz_195_98 rfl ?_
            have ce17 : h16 151 37 = v15 := ((my_up_role fh16 is_151 is_183 rfl).trans ev15.symm)
            have a182 : ∀ j : Int, h16 182 j = h13 182 j := fun j => ((my_up_role fh16 is_182 is_183 rfl).trans (rfl : h13 182 j = h13 182 j))
            exact ih_42_0 ((p42_0 + 1)) h16 (gh16) (by omega) (by omega) (by omega) (by omega) (by omega) (((my_up_role fh16 is_151 is_183 rfl).trans ((my_up_role fh13 is_151 is_182 rfl).trans ev10.symm)).trans (by omega)) (((my_up_role fh16 is_151 is_183 rfl).trans ev15.symm).trans (by omega)) Rws_h16 (by omega) (by first | omega | (rw [rc_at (by omega)]; omega) | (show _ = (0 : Int); omega) | omega) (by first | (intro i c a b; exfalso; omega) | exact Shn_V (Shn_eq a182 sh_7_0) (by omega) (by omega) (by omega) (by omega) | exact Shn_V (Shn_eq a182 (Shn_up sh_42_0 f79 (by omega) (by omega))) (by omega) (by omega) (by omega) (by omega) | exact Shn_V (Shn_eq a182 (Shn_row sh_42_0 (fun c c0 cw => sr_42_0 c c0 (by omega)))) (by omega) (by omega) (by omega) (by omega) | omega) (by first | (intro c a b; exfalso; omega) | (intro c a b; rw [a182, show h16 151 37 = h42_0 151 37 by omega]; rcases (by omega : c = p42_0 ∨ c < p42_0) with q | q <;> first | (rw [my_up_ne f79 (by omega)]; exact sr_42_0 c a q) | (rw [my_up_at f79 (by omega)]; omega)) | omega) (by omega)
      refine w_iload_n gz_195_7 rfl ?_
      refine w_bipush gz_195_8 (by decide) ?_
      refine w_icge (t := 117) gz_195_10 rfl (fun u18 => ?_) (fun u18 => ?_)
      ·
        exact w_vret gz_195_117 gm_195 (k0 h7_0 (gh_7_0) (by have z := sh_7_0; rw [ek151_33] at z; exact z))
      ·
        refine w_aload_n gz_195_13 rfl ?_
        refine w_getX (v := 162) gz_195_14 is_151 rd_10 rfl (by decide) rfl ?_
        refine w_iload_n gz_195_17 rfl ?_
        refine w_aload_n gz_195_18 rfl ?_
        refine v_getI (j := 33) gz_195_19 rfl is_151 rd_10 rfl (fun v20 ev20 pv20 qv20 => ?_)
        have zv20 := ev20.trans c151_33_7_0
        refine w_iload_n gz_195_22 rfl ?_
        have eb : v20 = k151_33 := by omega
        refine w_inS (k := 0) (as := [(0, p7_0), (0, v20), (0, x1)]) (r := [(2, 162)]) (ls0 := [(0, x1), (0, v20), (0, p7_0)]) gz_195_23 gm_150 rfl rfl rfl rfl rfl rfl ?_
        refine w_bipush gz_150_0 (by decide) ?_
        refine w_iload_n gz_150_2 rfl ?_
        refine w_imul gz_150_3 ⟨by omega, by omega⟩ ?_
        refine w_bipush gz_150_4 (by decide) ?_
        refine w_iload_n gz_150_6 rfl ?_
        refine w_imul gz_150_7 ⟨by omega, by omega⟩ ?_
        refine w_iadd gz_150_8 ⟨by omega, by omega⟩ ?_
        refine w_iload_n gz_150_9 rfl ?_
        refine w_iadd gz_150_10 ⟨by omega, by omega⟩ ?_
        refine w_iret gz_150_11 gm_150 ?_
        show wp l rho (d + 2) 195 26 [(2, 151), (0, x1), (0, p7_0), (9, 0)] [(0, (((60 * x1) + (20 * v20)) + p7_0)), (2, 162)] h7_0 Q
        have t162 : h7_0 162 (((60 * x1) + (20 * v20)) + p7_0) = h 162 (((60 * x1) + (20 * v20)) + p7_0) := my_fr.at gh_7_0 is_162 rfl
        have hix : h 162 (((60 * x1) + (20 * v20)) + p7_0) = h 162 (60 * x1 + 20 * k151_33 + p7_0) := by rw [eb]
        refine w_bald gz_195_26 is_162 rd_61 (by omega) (by omega) (fun v21 ev21 pv21 qv21 => ?_)
        refine w_ifeq (t := 111) gz_195_27 rfl (fun u22 => ?_) (fun u22 => ?_)
        ·
          refine w_iinc (ls' := [(2, 151), (0, x1), (0, (p7_0 + 1)), (9, 0)]) gz_195_111 rfl gm_195 rfl rfl rfl ⟨by omega, by omega⟩ ?_
          refine w_goto (t := 7) gz_195_114 rfl ?_
          have ce23 : h7_0 151 37 = p7_1 := c151_37_7_0
          have a182 : ∀ j : Int, h7_0 182 j = h7_0 182 j := fun _ => rfl
          exact ih_7_0 ((p7_0 + 1)) (p7_1) h7_0 (gh_7_0) (by omega) (by omega) (by omega) (by omega) (by omega) (ev20.symm.trans (by omega)) (c151_37_7_0.trans (by omega)) n_Rws_7_0 (by first | omega | (rw [rc_at (by omega)]; omega) | (show _ = (0 : Int); omega) | omega) (by first | (intro i c a b; exfalso; omega) | exact Shn_V (Shn_eq a182 sh_7_0) (by omega) (by omega) (by omega) (by omega) | exact Shn_V (Shn_eq a182 (Shn_up sh_42_0 f79 (by omega) (by omega))) (by omega) (by omega) (by omega) (by omega) | exact Shn_V (Shn_eq a182 (Shn_row sh_42_0 (fun c c0 cw => sr_42_0 c c0 (by omega)))) (by omega) (by omega) (by omega) (by omega) | omega) (by omega)
        ·
          have nine := rc_nine kT n_Rws (s := x1) (w := k151_33) (k := p7_0) (by omega) (by omega) (by omega) (by omega) (by omega) (by omega) (by omega)
          refine w_aload_n gz_195_30 rfl ?_
          refine w_getX (v := 181) gz_195_31 is_151 rd_10 rfl (by decide) rfl ?_
          refine w_aload_n gz_195_34 rfl ?_
          refine v_getI (j := 37) gz_195_35 rfl is_151 rd_10 rfl (fun v25 ev25 pv25 qv25 => ?_)
          have zv25 := ev25.trans c151_37_7_0
          refine w_iload_n gz_195_38 rfl ?_
          have hi26 : 0 ≤ v25 := by omega
          have hi27 : v25 ≤ 9 := by omega
          refine w_iast gz_195_39 is_181 rd_80 (by omega) (by omega) (by omega) (by omega) (fun h28 fh28 => ?_)
          have gh28 : my_fr [(10, 37), (80, -1), (81, -1), (82, -1)] h h28 := my_fr.up gh_7_0 is_181 fh28 rfl
          have Rws_h28 : Rws h28 := Rws_ag (my_ag.up fh28 is_181 rfl) n_Rws_7_0
          refine w_iconst gz_195_40 (by decide) ?_
          refine w_istore_n (ls' := [(2, 151), (0, x1), (0, p7_0), (0, 0)]) gz_195_41 gm_195 rfl rfl rfl ?_
          have ce29 : h28 151 37 = v25 := ((my_up_role fh28 is_151 is_181 rfl).trans ev25.symm)
          have a182 : ∀ j : Int, h28 182 j = h7_0 182 j := fun j => ((my_up_role fh28 is_182 is_181 rfl).trans (rfl : h7_0 182 j = h7_0 182 j))
          exact J42_0 5 (0) h28 (gh28) (by omega) (by omega) (by omega) (by omega) (by omega) (((my_up_role fh28 is_151 is_181 rfl).trans ev20.symm).trans (by omega)) (((my_up_role fh28 is_151 is_181 rfl).trans ev25.symm).trans (by omega)) Rws_h28 (by omega) (by first | omega | (rw [rc_at (by omega)]; omega) | (show _ = (0 : Int); omega) | omega) (by first | (intro i c a b; exfalso; omega) | exact Shn_V (Shn_eq a182 sh_7_0) (by omega) (by omega) (by omega) (by omega) | exact Shn_V (Shn_eq a182 (Shn_up sh_42_0 f79 (by omega) (by omega))) (by omega) (by omega) (by omega) (by omega) | exact Shn_V (Shn_eq a182 (Shn_row sh_42_0 (fun c c0 cw => sr_42_0 c c0 (by omega)))) (by omega) (by omega) (by omega) (by omega) | omega) (by first | (intro c a b; exfalso; omega) | (intro c a b; rw [a182, show h28 151 37 = h42_0 151 37 by omega]; rcases (by omega : c = p42_0 ∨ c < p42_0) with q | q <;> first | (rw [my_up_ne f79 (by omega)]; exact sr_42_0 c a q) | (rw [my_up_at f79 (by omega)]; omega)) | omega) (by omega)
  refine w_aload_n gz_195_0 rfl ?_
  refine w_iconst gz_195_1 (by decide) ?_
  refine v_putI (j := 37) gz_195_2 rfl is_151 rd_10 rfl (by omega) (by omega) rfl (fun h30 fh30 => ?_)
  have gh30 : my_fr [(10, 37), (80, -1), (81, -1), (82, -1)] h h30 := my_fr.up my_fr.rf is_151 fh30 rfl
  have Rws_h30 : Rws h30 := Rws_ag (my_ag.up fh30 is_151 rfl) n_Rws
  have k37 := my_up_self fh30
  refine w_iconst gz_195_5 (by decide) ?_
  refine w_istore_n (ls' := [(2, 151), (0, x1), (0, 0), (9, 0)]) gz_195_6 gm_195 rfl rfl rfl ?_
  have ce31 : h30 151 37 = 0 := (my_up_self fh30)
  have a182 : ∀ j : Int, h30 182 j = h 182 j := fun j => ((my_up_role fh30 is_182 is_151 rfl).trans (rfl : h 182 j = h 182 j))
  exact J7_0 21 (0) (0) h30 (gh30) (by omega) (by omega) (by omega) (by omega) (by omega) (((my_up_fld fh30 (by decide)).trans ek151_33.symm).trans (by omega)) ((my_up_self fh30).trans (by omega)) Rws_h30 (by first | omega | (rw [rc_at (by omega)]; omega) | (show _ = (0 : Int); omega) | omega) (by first | (intro i c a b; exfalso; omega) | exact Shn_V (Shn_eq a182 sh_7_0) (by omega) (by omega) (by omega) (by omega) | exact Shn_V (Shn_eq a182 (Shn_up sh_42_0 f79 (by omega) (by omega))) (by omega) (by omega) (by omega) (by omega) | exact Shn_V (Shn_eq a182 (Shn_row sh_42_0 (fun c c0 cw => sr_42_0 c c0 (by omega)))) (by omega) (by omega) (by omega) (by omega) | omega) (by omega)
theorem c_Model_isLeft {l : Launch} {rho : Nat → Int32} {d : Nat} {h : my_H} {Q : my_H → my_V → Prop} {x1 x2 x3 : Int} (a1 : 0 ≤ x1) (b1 : x1 ≤ 15) (a2 : 0 ≤ x2) (b2 : x2 ≤ 41) (a3 : 0 ≤ x3) (b3 : x3 ≤ 9) (pk : Pk3 h x2 (h 151 27)) (pj : h 168 x2 = 4 → 0 ≤ h 170 x2 ∧ h 170 x2 ≤ 2 ∧ 1 ≤ h 157 (h 170 x2) ∧ h 151 27 + h 157 (h 170 x2) ≤ 9) (k0 : ∀ (h' : my_H), my_fr [(81, -1), (82, -1), (83, -1), (84, -1)] h h' → RwO h h' x3 → Q h' (0, 0)) (k1 : ∀ (h' : my_H), my_fr [(81, -1), (82, -1), (83, -1), (84, -1)] h h' → RwN h h' x3 (h 151 27) (wl h x2 (h 151 27)) → RwO h h' x3 → Q h' (0, 1)) : wp l rho (d + 2) 196 0 [(2, 151), (0, x1), (0, x2), (0, x3), (9, 0), (9, 0)] [] h Q := by
  refine v_know (x := 151) (j := 27) (b := 27) rfl is_151 rd_10 rfl (fun k151_27 ek151_27 pk151_27 qk151_27 => ?_)
  have J172_0 : ∀ (n : Nat) (p172_0 p172_1 : Int) (h172_0 : my_H), my_fr [(81, -1), (82, -1), (83, -1), (84, -1)] h h172_0 → 0 ≤ p172_0 → 0 ≤ p172_1 → p172_1 ≤ 8 → h172_0 151 27 = k151_27 → h 168 x2 = 3 → (∀ k : Int, 0 ≤ k → k < 8 → h172_0 184 k = h 182 (8 * x3 + k)) → (∀ c : Int, 0 ≤ c → c < p172_1 → ∃ c2 : Int, 0 ≤ c2 ∧ c2 < h 151 27 ∧ h172_0 182 (8 * x3 + c) = h 182 (8 * x3 + c2)) → RwO h h172_0 x3 → 9 - p172_1 ≤ (n : Int) → wp l rho (d + 2) 196 172 [(2, 151), (0, x1), (0, x2), (0, x3), (0, p172_0), (0, p172_1)] [] h172_0 Q := by
    intro n
    induction n with
    | zero => intro p172_0 p172_1 h172_0 gh_172_0 q0_172_0 q1_172_0 q2_172_0 c151_27_172_0 k3_172_0 ka_172_0 nw_172_0 ot_172_0 hm_172_0; exfalso; omega
    | succ n ih_172_0 =>
      intro p172_0 p172_1 h172_0 gh_172_0 q0_172_0 q1_172_0 q2_172_0 c151_27_172_0 k3_172_0 ka_172_0 nw_172_0 ot_172_0 hm_172_0
      refine w_iload gz_196_172 rfl ?_
      refine w_aload_n gz_196_174 rfl ?_
      refine w_getX (v := 171) gz_196_175 is_151 rd_10 rfl (by decide) rfl ?_
      refine w_iload_n gz_196_178 rfl ?_
      refine w_iald gz_196_179 is_171 rd_70 (by omega) (by omega) (fun v2 ev2 pv2 qv2 => ?_)
      have f171 : h172_0 171 x2 = h 171 x2 := my_fr.at gh_172_0 is_171 rfl
      have m8 : v2 = h 171 x2 := by omega
      refine w_icge (t := 247) gz_196_180 rfl (fun u3 => ?_) (fun u3 => ?_)
      ·
        refine w_iconst gz_196_247 (by decide) ?_
        exact w_bret gz_196_248 gm_196 (by omega) (by omega) (k1 h172_0 (gh_172_0) (by first | exact ot_172_0 | exact ot_283_0 | exact (fun _ _ => rfl) | (rw [wl_k (by omega) (by omega)]; exact RwN_rf (Int.le_refl _)) | (rw [wl_3 k3_172_0]; exact fun c c0 cw => Or.inl (nw_172_0 c c0 (by omega))) | (rw [wl_4 k4_283_0]; exact fun c c0 cw => by rcases (by omega : c < h 151 27 ∨ h 151 27 ≤ c) with q | q <;> first | exact Or.inl ⟨c, c0, q, lo_283_0 c c0 q⟩ | exact Or.inr (hi_283_0 c q (by omega))) | omega) (by first | exact ot_172_0 | exact ot_283_0 | exact (fun _ _ => rfl) | (rw [wl_k (by omega) (by omega)]; exact RwN_rf (Int.le_refl _)) | (rw [wl_3 k3_172_0]; exact fun c c0 cw => Or.inl (nw_172_0 c c0 (by omega))) | (rw [wl_4 k4_283_0]; exact fun c c0 cw => by rcases (by omega : c < h 151 27 ∨ h 151 27 ≤ c) with q | q <;> first | exact Or.inl ⟨c, c0, q, lo_283_0 c c0 q⟩ | exact Or.inr (hi_283_0 c q (by omega))) | omega))
      ·
        refine w_aload_n gz_196_183 rfl ?_
        refine w_getX (v := 182) gz_196_184 is_151 rd_10 rfl (by decide) rfl ?_
        refine w_bipush gz_196_187 (by decide) ?_
        refine w_iload_n gz_196_189 rfl ?_
        refine w_imul gz_196_190 ⟨by omega, by omega⟩ ?_
        refine w_iload gz_196_191 rfl ?_
        refine w_iadd gz_196_193 ⟨by omega, by omega⟩ ?_
        refine w_aload_n gz_196_194 rfl ?_
        refine w_getX (v := 184) gz_196_195 is_151 rd_10 rfl (by decide) rfl ?_
        refine w_aload_n gz_196_198 rfl ?_
        refine w_getX (v := 172) gz_196_199 is_151 rd_10 rfl (by decide) rfl ?_
        refine w_bipush gz_196_202 (by decide) ?_
        refine w_iload_n gz_196_204 rfl ?_
        refine w_imul gz_196_205 ⟨by omega, by omega⟩ ?_
        refine w_iload gz_196_206 rfl ?_
        refine w_iadd gz_196_208 ⟨by omega, by omega⟩ ?_
        refine w_iald gz_196_209 is_172 rd_71 (by omega) (by omega) (fun v7 ev7 pv7 qv7 => ?_)
        have f172 : ∀ j : Int, h172_0 172 j = h 172 j := fun j => my_fr.at gh_172_0 is_172 rfl
        have fw : v7 < h 151 27 := by have z := pk.2.2 k3_172_0 p172_1 (by omega) (by omega) (by omega); rw [← f172] at z; omega
        obtain ⟨vw, ew⟩ : ∃ vw : Int, vw = v7 := ⟨_, rfl⟩
        refine w_iald gz_196_210 is_184 rd_83 (by omega) (by omega) (fun v8 ev8 pv8 qv8 => ?_)
        have gv : v8 = h 182 (8 * x3 + vw) := by rw [← ka_172_0 vw (by omega) (by omega), ew]; omega
        refine w_iastU gz_196_211 is_182 rd_81 (by omega) (by omega) (by omega) (fun h9 fh9 => ?_)
        have gh9 : my_fr [(81, -1), (82, -1), (83, -1), (84, -1)] h h9 := my_fr.up gh_172_0 is_182 fh9 rfl
        have f211 := fh9
        refine w_aload_n gz_196_212 rfl ?_
        refine w_getX (v := 183) gz_196_213 is_151 rd_10 rfl (by decide) rfl ?_
        refine w_bipush gz_196_216 (by decide) ?_
        refine w_iload_n gz_196_218 rfl ?_
        refine w_imul gz_196_219 ⟨by omega, by omega⟩ ?_
        refine w_iload gz_196_220 rfl ?_
        refine w_iadd gz_196_222 ⟨by omega, by omega⟩ ?_
        refine w_aload_n gz_196_223 rfl ?_
        refine w_getX (v := 185) gz_196_224 is_151 rd_10 rfl (by decide) rfl ?_
        refine w_aload_n gz_196_227 rfl ?_
        refine w_getX (v := 172) gz_196_228 is_151 rd_10 rfl (by decide) rfl ?_
        refine w_bipush gz_196_231 (by decide) ?_
        refine w_iload_n gz_196_233 rfl ?_
        refine w_imul gz_196_234 ⟨by omega, by omega⟩ ?_
        refine w_iload gz_196_235 rfl ?_
        refine w_iadd gz_196_237 ⟨by omega, by omega⟩ ?_
        refine w_iald gz_196_238 is_172 rd_71 (by omega) (by omega) (fun v13 ev13 pv13 qv13 => ?_)
        refine w_iald gz_196_239 is_185 rd_84 (by omega) (by omega) (fun v14 ev14 pv14 qv14 => ?_)
        refine w_iast gz_196_240 is_183 rd_82 (by omega) (by omega) (by omega) (by omega) (fun h15 fh15 => ?_)
        have gh15 : my_fr [(81, -1), (82, -1), (83, -1), (84, -1)] h h15 := my_fr.up gh9 is_183 fh15 rfl
        refine w_iinc (ls' := [(2, 151), (0, x1), (0, x2), (0, x3), (0, p172_0), (0, (p172_1 + 1))]) gz_196_241 rfl gm_196 rfl rfl rfl ⟨by omega, by omega⟩ ?_
        refine w_goto (t := 172) gz_196_244 rfl ?_
        have a182 : ∀ j : Int, h15 182 j = h9 182 j := fun j => ((my_up_role fh15 is_182 is_183 rfl).trans (rfl : h9 182 j = h9 182 j))
        have a184 : ∀ j : Int, h15 184 j = h172_0 184 j := fun j => ((my_up_role fh15 is_184 is_183 rfl).trans ((my_up_role fh9 is_184 is_182 rfl).trans (rfl : h172_0 184 j = h172_0 184 j)))
        exact ih_172_0 (p172_0) ((p172_1 + 1)) h15 (gh15) (by omega) (by omega) (by omega) (((my_up_role fh15 is_151 is_183 rfl).trans ((my_up_role fh9 is_151 is_182 rfl).trans c151_27_172_0)).trans (by omega)) (by omega) (by first | (intro k a b; exfalso; omega) | (intro k a b; rw [a184]; exact ka_118_0 k a (by omega)) | (intro k a b; rw [a184]; exact ka_172_0 k a b) | (intro k a b; rw [a184]; rcases (by omega : k = p172_1 ∨ k < p172_1) with q | q <;> first | (rw [my_up_ne f143 (by omega)]; exact ka_118_0 k a q) | (rw [my_up_at f143 (by omega)]; have z := sm_118_0 (8 * x3 + k); subst q; omega)) | omega) (by first | (intro c a b; exfalso; omega) | (intro c a b; rw [a182]; rcases (by omega : c = p172_1 ∨ c < p172_1) with q | q <;> first | (rw [my_up_ne f211 (by omega)]; exact nw_172_0 c a q) | exact ⟨vw, by omega, by omega, by rw [my_up_at f211 (by omega)]; exact gv⟩) | omega) (by first | (intro j q; rw [a182]; exact sm_118_0 j) | (intro j q; exact a182 j) | (intro j q; rw [a182, my_up_ne f211 (by omega)]; exact ot_172_0 j q) | (intro j q; rw [a182, my_up_ne f332 (by omega)]; exact ot_283_0 j q) | omega) (by omega)
  have J118_0 : ∀ (n : Nat) (p118_0 p118_1 : Int) (h118_0 : my_H), my_fr [(81, -1), (82, -1), (83, -1), (84, -1)] h h118_0 → 0 ≤ p118_0 → 0 ≤ p118_1 → p118_1 ≤ 8 → h118_0 151 27 = k151_27 → h 168 x2 = 3 → (∀ k : Int, 0 ≤ k → k < p118_1 → h118_0 184 k = h 182 (8 * x3 + k)) → (∀ j : Int, h118_0 182 j = h 182 j) → 9 - p118_1 ≤ (n : Int) → wp l rho (d + 2) 196 118 [(2, 151), (0, x1), (0, x2), (0, x3), (0, p118_0), (0, p118_1)] [] h118_0 Q := by
    intro n
    induction n with
    | zero => intro p118_0 p118_1 h118_0 gh_118_0 q0_118_0 q1_118_0 q2_118_0 c151_27_118_0 k3_118_0 ka_118_0 sm_118_0 hm_118_0; exfalso; omega
    | succ n ih_118_0 =>
      intro p118_0 p118_1 h118_0 gh_118_0 q0_118_0 q1_118_0 q2_118_0 c151_27_118_0 k3_118_0 ka_118_0 sm_118_0 hm_118_0
      refine w_iload gz_196_118 rfl ?_
      refine w_bipush gz_196_120 (by decide) ?_
      refine w_icge (t := 169) gz_196_122 rfl (fun u16 => ?_) (fun u16 => ?_)
      ·
        refine w_iconst gz_196_169 (by decide) ?_
        refine w_istore (ls' := [(2, 151), (0, x1), (0, x2), (0, x3), (0, p118_0), (0, 0)]) gz_196_170 gm_196 rfl rfl rfl ?_
        have a182 : ∀ j : Int, h118_0 182 j = h118_0 182 j := fun _ => rfl
        have a184 : ∀ j : Int, h118_0 184 j = h118_0 184 j := fun _ => rfl
        exact J172_0 9 (p118_0) (0) h118_0 (gh_118_0) (by omega) (by omega) (by omega) (c151_27_118_0.trans (by omega)) (by omega) (by first | (intro k a b; exfalso; omega) | (intro k a b; rw [a184]; exact ka_118_0 k a (by omega)) | (intro k a b; rw [a184]; exact ka_172_0 k a b) | (intro k a b; rw [a184]; rcases (by omega : k = p172_1 ∨ k < p172_1) with q | q <;> first | (rw [my_up_ne f143 (by omega)]; exact ka_118_0 k a q) | (rw [my_up_at f143 (by omega)]; have z := sm_118_0 (8 * x3 + k); subst q; omega)) | omega) (by first | (intro c a b; exfalso; omega) | (intro c a b; rw [a182]; rcases (by omega : c = p172_1 ∨ c < p172_1) with q | q <;> first | (rw [my_up_ne f211 (by omega)]; exact nw_172_0 c a q) | exact ⟨vw, by omega, by omega, by rw [my_up_at f211 (by omega)]; exact gv⟩) | omega) (by first | (intro j q; rw [a182]; exact sm_118_0 j) | (intro j q; exact a182 j) | (intro j q; rw [a182, my_up_ne f211 (by omega)]; exact ot_172_0 j q) | (intro j q; rw [a182, my_up_ne f332 (by omega)]; exact ot_283_0 j q) | omega) (by omega)
      ·
        refine w_aload_n gz_196_125 rfl ?_
        refine w_getX (v := 184) gz_196_126 is_151 rd_10 rfl (by decide) rfl ?_
        refine w_iload gz_196_129 rfl ?_
        refine w_aload_n gz_196_131 rfl ?_
        refine w_getX (v := 182) gz_196_132 is_151 rd_10 rfl (by decide) rfl ?_
        refine w_bipush gz_196_135 (by decide) ?_
        refine w_iload_n gz_196_137 rfl ?_
        refine w_imul gz_196_138 ⟨by omega, by omega⟩ ?_
        refine w_iload gz_196_139 rfl ?_
        refine w_iadd gz_196_141 ⟨by omega, by omega⟩ ?_
        refine w_iald gz_196_142 is_182 rd_81 (by omega) (by omega) (fun v19 ev19 pv19 qv19 => ?_)
        refine w_iastU gz_196_143 is_184 rd_83 (by omega) (by omega) (by omega) (fun h20 fh20 => ?_)
        have gh20 : my_fr [(81, -1), (82, -1), (83, -1), (84, -1)] h h20 := my_fr.up gh_118_0 is_184 fh20 rfl
        have f143 := fh20
        refine w_aload_n gz_196_144 rfl ?_
        refine w_getX (v := 185) gz_196_145 is_151 rd_10 rfl (by decide) rfl ?_
        refine w_iload gz_196_148 rfl ?_
        refine w_aload_n gz_196_150 rfl ?_
        refine w_getX (v := 183) gz_196_151 is_151 rd_10 rfl (by decide) rfl ?_
        refine w_bipush gz_196_154 (by decide) ?_
        refine w_iload_n gz_196_156 rfl ?_
        refine w_imul gz_196_157 ⟨by omega, by omega⟩ ?_
        refine w_iload gz_196_158 rfl ?_
        refine w_iadd gz_196_160 ⟨by omega, by omega⟩ ?_
        refine w_iald gz_196_161 is_183 rd_82 (by omega) (by omega) (fun v23 ev23 pv23 qv23 => ?_)
        refine w_iast gz_196_162 is_185 rd_84 (by omega) (by omega) (by omega) (by omega) (fun h24 fh24 => ?_)
        have gh24 : my_fr [(81, -1), (82, -1), (83, -1), (84, -1)] h h24 := my_fr.up gh20 is_185 fh24 rfl
        refine w_iinc (ls' := [(2, 151), (0, x1), (0, x2), (0, x3), (0, p118_0), (0, (p118_1 + 1))]) gz_196_163 rfl gm_196 rfl rfl rfl ⟨by omega, by omega⟩ ?_
        refine w_goto (t := 118) gz_196_166 rfl ?_
        have a182 : ∀ j : Int, h24 182 j = h118_0 182 j := fun j => ((my_up_role fh24 is_182 is_185 rfl).trans ((my_up_role fh20 is_182 is_184 rfl).trans (rfl : h118_0 182 j = h118_0 182 j)))
        have a184 : ∀ j : Int, h24 184 j = h20 184 j := fun j => ((my_up_role fh24 is_184 is_185 rfl).trans (rfl : h20 184 j = h20 184 j))
        exact ih_118_0 (p118_0) ((p118_1 + 1)) h24 (gh24) (by omega) (by omega) (by omega) (((my_up_role fh24 is_151 is_185 rfl).trans ((my_up_role fh20 is_151 is_184 rfl).trans c151_27_118_0)).trans (by omega)) (by omega) (by first | (intro k a b; exfalso; omega) | (intro k a b; rw [a184]; exact ka_118_0 k a (by omega)) | (intro k a b; rw [a184]; exact ka_172_0 k a b) | (intro k a b; rw [a184]; rcases (by omega : k = p118_1 ∨ k < p118_1) with q | q <;> first | (rw [my_up_ne f143 (by omega)]; exact ka_118_0 k a q) | (rw [my_up_at f143 (by omega)]; have z := sm_118_0 (8 * x3 + k); subst q; omega)) | omega) (by first | exact a182 | (intro j; rw [a182]; exact sm_118_0 j) | omega) (by omega)
  have J283_0 : ∀ (n : Nat) (p283_0 p283_1 : Int) (h283_0 : my_H), my_fr [(81, -1), (82, -1), (83, -1), (84, -1)] h h283_0 → 0 ≤ p283_0 → p283_0 ≤ 19 → 1 ≤ p283_1 → p283_1 ≤ 4 → h283_0 151 27 = k151_27 → h 168 x2 = 4 → (∀ k : Int, 0 ≤ k → k < h 151 27 → h283_0 182 (8 * x3 + k) = h 182 (8 * x3 + k)) → (∀ k : Int, h 151 27 ≤ k → k < h 151 27 + p283_1 - 1 → h283_0 182 (8 * x3 + k) ≤ 19) → RwO h h283_0 x3 → p283_0 ≤ 19 → 5 - p283_1 ≤ (n : Int) → wp l rho (d + 2) 196 283 [(2, 151), (0, x1), (0, x2), (0, x3), (0, p283_0), (0, p283_1)] [] h283_0 Q := by
    intro n
    induction n with
    | zero => intro p283_0 p283_1 h283_0 gh_283_0 q0_283_0 q1_283_0 q2_283_0 q3_283_0 c151_27_283_0 k4_283_0 lo_283_0 hi_283_0 ot_283_0 v19_283_0 hm_283_0; exfalso; omega
    | succ n ih_283_0 =>
      intro p283_0 p283_1 h283_0 gh_283_0 q0_283_0 q1_283_0 q2_283_0 q3_283_0 c151_27_283_0 k4_283_0 lo_283_0 hi_283_0 ot_283_0 v19_283_0 hm_283_0
      refine w_iload gz_196_283 rfl ?_
      refine w_aload_n gz_196_285 rfl ?_
      refine w_getX (v := 157) gz_196_286 is_151 rd_10 rfl (by decide) rfl ?_
      refine w_aload_n gz_196_289 rfl ?_
      refine w_getX (v := 170) gz_196_290 is_151 rd_10 rfl (by decide) rfl ?_
      refine w_iload_n gz_196_293 rfl ?_
      refine w_iald gz_196_294 is_170 rd_69 (by omega) (by omega) (fun v27 ev27 pv27 qv27 => ?_)
      have f170 : ∀ j : Int, h283_0 170 j = h 170 j := fun j => my_fr.at gh_283_0 is_170 rfl
      have n0 : v27 = h 170 x2 := by have q := f170 x2; omega
      have pj4 := pj k4_283_0
      have hi28 : 0 ≤ v27 := by omega
      have hi29 : v27 ≤ 2 := by omega
      refine w_iald gz_196_295 is_157 rd_56 (by omega) (by omega) (fun v30 ev30 pv30 qv30 => ?_)
      have f157 : ∀ j : Int, h283_0 157 j = h 157 j := fun j => my_fr.at gh_283_0 is_157 rfl
      have cN : v30 = h 157 (h 170 x2) := by rw [← n0, ← f157]; omega
      refine w_icge (t := 360) gz_196_296 rfl (fun u31 => ?_) (fun u31 => ?_)
      ·
        refine w_iconst gz_196_360 (by decide) ?_
        exact w_bret gz_196_361 gm_196 (by omega) (by omega) (k1 h283_0 (gh_283_0) (by first | exact ot_172_0 | exact ot_283_0 | exact (fun _ _ => rfl) | (rw [wl_k (by omega) (by omega)]; exact RwN_rf (Int.le_refl _)) | (rw [wl_3 k3_172_0]; exact fun c c0 cw => Or.inl (nw_172_0 c c0 (by omega))) | (rw [wl_4 k4_283_0]; exact fun c c0 cw => by rcases (by omega : c < h 151 27 ∨ h 151 27 ≤ c) with q | q <;> first | exact Or.inl ⟨c, c0, q, lo_283_0 c c0 q⟩ | exact Or.inr (hi_283_0 c q (by omega))) | omega) (by first | exact ot_172_0 | exact ot_283_0 | exact (fun _ _ => rfl) | (rw [wl_k (by omega) (by omega)]; exact RwN_rf (Int.le_refl _)) | (rw [wl_3 k3_172_0]; exact fun c c0 cw => Or.inl (nw_172_0 c c0 (by omega))) | (rw [wl_4 k4_283_0]; exact fun c c0 cw => by rcases (by omega : c < h 151 27 ∨ h 151 27 ≤ c) with q | q <;> first | exact Or.inl ⟨c, c0, q, lo_283_0 c c0 q⟩ | exact Or.inr (hi_283_0 c q (by omega))) | omega))
      ·
        refine w_aload_n gz_196_299 rfl ?_
        refine w_getX (v := 182) gz_196_300 is_151 rd_10 rfl (by decide) rfl ?_
        refine w_bipush gz_196_303 (by decide) ?_
        refine w_iload_n gz_196_305 rfl ?_
        refine w_imul gz_196_306 ⟨by omega, by omega⟩ ?_
        refine w_aload_n gz_196_307 rfl ?_
        refine v_getI (j := 27) gz_196_308 rfl is_151 rd_10 rfl (fun v33 ev33 pv33 qv33 => ?_)
        have zv33 := ev33.trans c151_27_283_0
        refine w_iadd gz_196_311 ⟨by omega, by omega⟩ ?_
        refine w_iload gz_196_312 rfl ?_
        refine w_iadd gz_196_314 ⟨by omega, by omega⟩ ?_
        refine w_iconst gz_196_315 (by decide) ?_
        refine w_isub gz_196_316 ⟨by omega, by omega⟩ ?_
        refine w_aload_n gz_196_317 rfl ?_
        refine w_iload_n gz_196_318 rfl ?_
        refine w_aload_n gz_196_319 rfl ?_
        refine w_getX (v := 170) gz_196_320 is_151 rd_10 rfl (by decide) rfl ?_
        refine w_iload_n gz_196_323 rfl ?_
        refine w_iald gz_196_324 is_170 rd_69 (by omega) (by omega) (fun v35 ev35 pv35 qv35 => ?_)
        have zv35 := ev35.trans ev27.symm
        refine w_iload gz_196_325 rfl ?_
        refine w_iload gz_196_327 rfl ?_
        have f170 : ∀ j : Int, h283_0 170 j = h 170 j := fun j => my_fr.at gh_283_0 is_170 rfl
        have n1 : v35 = h 170 x2 := by have q := f170 x2; omega
        have hi36 : 0 ≤ v35 := by omega
        have hi37 : v35 ≤ 2 := by omega
        have hi38 : 0 ≤ p283_0 := by omega
        have hi39 : p283_0 ≤ 19 := by omega
        have hi40 : 1 ≤ p283_1 := by omega
        have hi41 : p283_1 ≤ 3 := by omega
        refine w_inv (k := 0) (as := [(0, p283_1), (0, p283_0), (0, v35), (0, x1)]) (r := [(0, ((((8 * x3) + v33) + p283_1) - 1)), (2, 182)]) (x := 151) (ls0 := [(2, 151), (0, x1), (0, v35), (0, p283_0), (0, p283_1)]) gz_196_329 gm_157 rfl is_151 rd_10 rfl rfl rfl rfl rfl ?_
        refine w_aload_n gz_157_0 rfl ?_
        refine w_getX (v := 163) gz_157_1 is_151 rd_10 rfl (by decide) rfl ?_
        refine w_iconst gz_157_4 (by decide) ?_
        refine w_iload_n gz_157_5 rfl ?_
        refine w_iload_n gz_157_6 rfl ?_
        refine w_iload_n gz_157_7 rfl ?_
        refine w_inS (k := 0) (as := [(0, p283_0), (0, v35), (0, x1)]) (r := [(0, 4), (2, 163)]) (ls0 := [(0, x1), (0, v35), (0, p283_0)]) gz_157_8 gm_150 rfl rfl rfl rfl rfl rfl ?_
        refine w_bipush gz_150_0 (by decide) ?_
        refine w_iload_n gz_150_2 rfl ?_
        refine w_imul gz_150_3 ⟨by omega, by omega⟩ ?_
        refine w_bipush gz_150_4 (by decide) ?_
        refine w_iload_n gz_150_6 rfl ?_
        refine w_imul gz_150_7 ⟨by omega, by omega⟩ ?_
        refine w_iadd gz_150_8 ⟨by omega, by omega⟩ ?_
        refine w_iload_n gz_150_9 rfl ?_
        refine w_iadd gz_150_10 ⟨by omega, by omega⟩ ?_
        refine w_iret gz_150_11 gm_150 ?_
        show wp l rho (d + 1) 157 11 [(2, 151), (0, x1), (0, v35), (0, p283_0), (0, p283_1)] [(0, (((60 * x1) + (20 * v35)) + p283_0)), (0, 4), (2, 163)] h283_0 _
        refine w_imul gz_157_11 ⟨by omega, by omega⟩ ?_
        refine w_iload gz_157_12 rfl ?_
        refine w_iadd gz_157_14 ⟨by omega, by omega⟩ ?_
        refine w_iald gz_157_15 is_163 rd_62 (by omega) (by omega) (fun v43 ev43 pv43 qv43 => ?_)
        refine w_iret gz_157_16 gm_157 ?_
        show wp l rho (d + 2) 196 332 [(2, 151), (0, x1), (0, x2), (0, x3), (0, p283_0), (0, p283_1)] [(0, v43), (0, ((((8 * x3) + v33) + p283_1) - 1)), (2, 182)] h283_0 Q
        have hi44 : 0 ≤ ((((8 * x3) + v33) + p283_1) - 1) := by omega
        have hi45 : ((((8 * x3) + v33) + p283_1) - 1) ≤ 79 := by omega
        refine w_iast gz_196_332 is_182 rd_81 (by omega) (by omega) (by omega) (by omega) (fun h46 fh46 => ?_)
        have gh46 : my_fr [(81, -1), (82, -1), (83, -1), (84, -1)] h h46 := my_fr.up gh_283_0 is_182 fh46 rfl
        have f332 := fh46
        refine w_aload_n gz_196_333 rfl ?_
        refine w_getX (v := 183) gz_196_334 is_151 rd_10 rfl (by decide) rfl ?_
        refine w_bipush gz_196_337 (by decide) ?_
        refine w_iload_n gz_196_339 rfl ?_
        refine w_imul gz_196_340 ⟨by omega, by omega⟩ ?_
        refine w_aload_n gz_196_341 rfl ?_
        refine v_getI (j := 27) gz_196_342 rfl is_151 rd_10 rfl (fun v48 ev48 pv48 qv48 => ?_)
        have zv48 := ev48.trans ((my_up_role fh46 is_151 is_182 rfl).trans ev33.symm)
        refine w_iadd gz_196_345 ⟨by omega, by omega⟩ ?_
        refine w_iload gz_196_346 rfl ?_
        refine w_iadd gz_196_348 ⟨by omega, by omega⟩ ?_
        refine w_iconst gz_196_349 (by decide) ?_
        refine w_isub gz_196_350 ⟨by omega, by omega⟩ ?_
        refine w_iload gz_196_351 rfl ?_
        have hi49 : 0 ≤ ((((8 * x3) + v48) + p283_1) - 1) := by omega
        have hi50 : ((((8 * x3) + v48) + p283_1) - 1) ≤ 79 := by omega
        refine w_iast gz_196_353 is_183 rd_82 (by omega) (by omega) (by omega) (by omega) (fun h51 fh51 => ?_)
        have gh51 : my_fr [(81, -1), (82, -1), (83, -1), (84, -1)] h h51 := my_fr.up gh46 is_183 fh51 rfl
        refine w_iinc (ls' := [(2, 151), (0, x1), (0, x2), (0, x3), (0, p283_0), (0, (p283_1 + 1))]) gz_196_354 rfl gm_196 rfl rfl rfl ⟨by omega, by omega⟩ ?_
        refine w_goto (t := 283) gz_196_357 rfl ?_
        have a182 : ∀ j : Int, h51 182 j = h46 182 j := fun j => ((my_up_role fh51 is_182 is_183 rfl).trans (rfl : h46 182 j = h46 182 j))
        exact ih_283_0 (p283_0) ((p283_1 + 1)) h51 (gh51) (by omega) (by omega) (by omega) (by omega) (((my_up_role fh51 is_151 is_183 rfl).trans ev48.symm).trans (by omega)) (by omega) (by first | (intro k a b; exact a182 _) | (intro k a b; rw [a182, my_up_ne f332 (by omega)]; exact lo_283_0 k a b) | omega) (by first | (intro k a b; exfalso; omega) | (intro k a b; rw [a182]; rcases (by omega : k = h 151 27 + p283_1 - 1 ∨ k < h 151 27 + p283_1 - 1) with q | q <;> first | (rw [my_up_ne f332 (by omega)]; exact hi_283_0 k a q) | (rw [my_up_at f332 (by omega)]; omega)) | omega) (by first | (intro j q; rw [a182]; exact sm_118_0 j) | (intro j q; exact a182 j) | (intro j q; rw [a182, my_up_ne f211 (by omega)]; exact ot_172_0 j q) | (intro j q; rw [a182, my_up_ne f332 (by omega)]; exact ot_283_0 j q) | omega) (by omega) (by omega)
  refine w_aload_n gz_196_0 rfl ?_
  refine w_getX (v := 182) gz_196_1 is_151 rd_10 rfl (by decide) rfl ?_
  refine w_bipush gz_196_4 (by decide) ?_
  refine w_iload_n gz_196_6 rfl ?_
  refine w_imul gz_196_7 ⟨by omega, by omega⟩ ?_
  refine w_aload_n gz_196_8 rfl ?_
  refine w_getX (v := 169) gz_196_9 is_151 rd_10 rfl (by decide) rfl ?_
  refine w_iload_n gz_196_12 rfl ?_
  refine w_iald gz_196_13 is_169 rd_68 (by omega) (by omega) (fun v54 ev54 pv54 qv54 => ?_)
  refine w_iadd gz_196_14 ⟨by omega, by omega⟩ ?_
  refine w_iald gz_196_15 is_182 rd_81 (by omega) (by omega) (fun v55 ev55 pv55 qv55 => ?_)
  refine w_istore (ls' := [(2, 151), (0, x1), (0, x2), (0, x3), (0, v55), (9, 0)]) gz_196_16 gm_196 rfl rfl rfl ?_
  refine w_aload_n gz_196_18 rfl ?_
  refine w_getX (v := 168) gz_196_19 is_151 rd_10 rfl (by decide) rfl ?_
  refine w_iload_n gz_196_22 rfl ?_
  refine w_iald gz_196_23 is_168 rd_67 (by omega) (by omega) (fun v57 ev57 pv57 qv57 => ?_)
  by_cases u58 : v57 = 0
  ·
    refine w_tswE (t := 64) gz_196_24 u58 (by decide) (by decide) rfl rfl ?_
    refine w_iload gz_196_64 rfl ?_
    refine w_aload_n gz_196_66 rfl ?_
    refine w_getX (v := 170) gz_196_67 is_151 rd_10 rfl (by decide) rfl ?_
    refine w_iload_n gz_196_70 rfl ?_
    refine w_iald gz_196_71 is_170 rd_69 (by omega) (by omega) (fun v60 ev60 pv60 qv60 => ?_)
    refine w_icge (t := 79) gz_196_72 rfl (fun u61 => ?_) (fun u61 => ?_)
    ·
      refine w_iconst gz_196_79 (by decide) ?_
      exact w_bret gz_196_80 gm_196 (by omega) (by omega) (k0 h (my_fr.rf) (by first | exact ot_172_0 | exact ot_283_0 | exact (fun _ _ => rfl) | (rw [wl_k (by omega) (by omega)]; exact RwN_rf (Int.le_refl _)) | (rw [wl_3 k3_172_0]; exact fun c c0 cw => Or.inl (nw_172_0 c c0 (by omega))) | (rw [wl_4 k4_283_0]; exact fun c c0 cw => by rcases (by omega : c < h 151 27 ∨ h 151 27 ≤ c) with q | q <;> first | exact Or.inl ⟨c, c0, q, lo_283_0 c c0 q⟩ | exact Or.inr (hi_283_0 c q (by omega))) | omega))
    ·
      refine w_iconst gz_196_75 (by decide) ?_
      refine w_goto (t := 80) gz_196_76 rfl ?_
      exact w_bret gz_196_80 gm_196 (by omega) (by omega) (k1 h (my_fr.rf) (by first | exact ot_172_0 | exact ot_283_0 | exact (fun _ _ => rfl) | (rw [wl_k (by omega) (by omega)]; exact RwN_rf (Int.le_refl _)) | (rw [wl_3 k3_172_0]; exact fun c c0 cw => Or.inl (nw_172_0 c c0 (by omega))) | (rw [wl_4 k4_283_0]; exact fun c c0 cw => by rcases (by omega : c < h 151 27 ∨ h 151 27 ≤ c) with q | q <;> first | exact Or.inl ⟨c, c0, q, lo_283_0 c c0 q⟩ | exact Or.inr (hi_283_0 c q (by omega))) | omega) (by first | exact ot_172_0 | exact ot_283_0 | exact (fun _ _ => rfl) | (rw [wl_k (by omega) (by omega)]; exact RwN_rf (Int.le_refl _)) | (rw [wl_3 k3_172_0]; exact fun c c0 cw => Or.inl (nw_172_0 c c0 (by omega))) | (rw [wl_4 k4_283_0]; exact fun c c0 cw => by rcases (by omega : c < h 151 27 ∨ h 151 27 ≤ c) with q | q <;> first | exact Or.inl ⟨c, c0, q, lo_283_0 c c0 q⟩ | exact Or.inr (hi_283_0 c q (by omega))) | omega))
  ·
    by_cases u62 : v57 = 1
    ·
      refine w_tswE (t := 81) gz_196_24 u62 (by decide) (by decide) rfl rfl ?_
      refine w_iload gz_196_81 rfl ?_
      refine w_aload_n gz_196_83 rfl ?_
      refine w_getX (v := 170) gz_196_84 is_151 rd_10 rfl (by decide) rfl ?_
      refine w_iload_n gz_196_87 rfl ?_
      refine w_iald gz_196_88 is_170 rd_69 (by omega) (by omega) (fun v64 ev64 pv64 qv64 => ?_)
      refine w_icne (t := 96) gz_196_89 rfl (fun u65 => ?_) (fun u65 => ?_)
      ·
        refine w_iconst gz_196_96 (by decide) ?_
        exact w_bret gz_196_97 gm_196 (by omega) (by omega) (k0 h (my_fr.rf) (by first | exact ot_172_0 | exact ot_283_0 | exact (fun _ _ => rfl) | (rw [wl_k (by omega) (by omega)]; exact RwN_rf (Int.le_refl _)) | (rw [wl_3 k3_172_0]; exact fun c c0 cw => Or.inl (nw_172_0 c c0 (by omega))) | (rw [wl_4 k4_283_0]; exact fun c c0 cw => by rcases (by omega : c < h 151 27 ∨ h 151 27 ≤ c) with q | q <;> first | exact Or.inl ⟨c, c0, q, lo_283_0 c c0 q⟩ | exact Or.inr (hi_283_0 c q (by omega))) | omega))
      ·
        refine w_iconst gz_196_92 (by decide) ?_
        refine w_goto (t := 97) gz_196_93 rfl ?_
        exact w_bret gz_196_97 gm_196 (by omega) (by omega) (k1 h (my_fr.rf) (by first | exact ot_172_0 | exact ot_283_0 | exact (fun _ _ => rfl) | (rw [wl_k (by omega) (by omega)]; exact RwN_rf (Int.le_refl _)) | (rw [wl_3 k3_172_0]; exact fun c c0 cw => Or.inl (nw_172_0 c c0 (by omega))) | (rw [wl_4 k4_283_0]; exact fun c c0 cw => by rcases (by omega : c < h 151 27 ∨ h 151 27 ≤ c) with q | q <;> first | exact Or.inl ⟨c, c0, q, lo_283_0 c c0 q⟩ | exact Or.inr (hi_283_0 c q (by omega))) | omega) (by first | exact ot_172_0 | exact ot_283_0 | exact (fun _ _ => rfl) | (rw [wl_k (by omega) (by omega)]; exact RwN_rf (Int.le_refl _)) | (rw [wl_3 k3_172_0]; exact fun c c0 cw => Or.inl (nw_172_0 c c0 (by omega))) | (rw [wl_4 k4_283_0]; exact fun c c0 cw => by rcases (by omega : c < h 151 27 ∨ h 151 27 ≤ c) with q | q <;> first | exact Or.inl ⟨c, c0, q, lo_283_0 c c0 q⟩ | exact Or.inr (hi_283_0 c q (by omega))) | omega))
    ·
      by_cases u66 : v57 = 2
      ·
        refine w_tswE (t := 98) gz_196_24 u66 (by decide) (by decide) rfl rfl ?_
        refine w_iload gz_196_98 rfl ?_
        refine w_aload_n gz_196_100 rfl ?_
        refine w_getX (v := 170) gz_196_101 is_151 rd_10 rfl (by decide) rfl ?_
        refine w_iload_n gz_196_104 rfl ?_
        refine w_iald gz_196_105 is_170 rd_69 (by omega) (by omega) (fun v68 ev68 pv68 qv68 => ?_)
        refine w_icle (t := 113) gz_196_106 rfl (fun u69 => ?_) (fun u69 => ?_)
        ·
          refine w_iconst gz_196_113 (by decide) ?_
          exact w_bret gz_196_114 gm_196 (by omega) (by omega) (k0 h (my_fr.rf) (by first | exact ot_172_0 | exact ot_283_0 | exact (fun _ _ => rfl) | (rw [wl_k (by omega) (by omega)]; exact RwN_rf (Int.le_refl _)) | (rw [wl_3 k3_172_0]; exact fun c c0 cw => Or.inl (nw_172_0 c c0 (by omega))) | (rw [wl_4 k4_283_0]; exact fun c c0 cw => by rcases (by omega : c < h 151 27 ∨ h 151 27 ≤ c) with q | q <;> first | exact Or.inl ⟨c, c0, q, lo_283_0 c c0 q⟩ | exact Or.inr (hi_283_0 c q (by omega))) | omega))
        ·
          refine w_iconst gz_196_109 (by decide) ?_
          refine w_goto (t := 114) gz_196_110 rfl ?_
          exact w_bret gz_196_114 gm_196 (by omega) (by omega) (k1 h (my_fr.rf) (by first | exact ot_172_0 | exact ot_283_0 | exact (fun _ _ => rfl) | (rw [wl_k (by omega) (by omega)]; exact RwN_rf (Int.le_refl _)) | (rw [wl_3 k3_172_0]; exact fun c c0 cw => Or.inl (nw_172_0 c c0 (by omega))) | (rw [wl_4 k4_283_0]; exact fun c c0 cw => by rcases (by omega : c < h 151 27 ∨ h 151 27 ≤ c) with q | q <;> first | exact Or.inl ⟨c, c0, q, lo_283_0 c c0 q⟩ | exact Or.inr (hi_283_0 c q (by omega))) | omega) (by first | exact ot_172_0 | exact ot_283_0 | exact (fun _ _ => rfl) | (rw [wl_k (by omega) (by omega)]; exact RwN_rf (Int.le_refl _)) | (rw [wl_3 k3_172_0]; exact fun c c0 cw => Or.inl (nw_172_0 c c0 (by omega))) | (rw [wl_4 k4_283_0]; exact fun c c0 cw => by rcases (by omega : c < h 151 27 ∨ h 151 27 ≤ c) with q | q <;> first | exact Or.inl ⟨c, c0, q, lo_283_0 c c0 q⟩ | exact Or.inr (hi_283_0 c q (by omega))) | omega))
      ·
        by_cases u70 : v57 = 3
        ·
          refine w_tswE (t := 115) gz_196_24 u70 (by decide) (by decide) rfl rfl ?_
          refine w_iconst gz_196_115 (by decide) ?_
          refine w_istore (ls' := [(2, 151), (0, x1), (0, x2), (0, x3), (0, v55), (0, 0)]) gz_196_116 gm_196 rfl rfl rfl ?_
          have a182 : ∀ j : Int, h 182 j = h 182 j := fun _ => rfl
          have a184 : ∀ j : Int, h 184 j = h 184 j := fun _ => rfl
          exact J118_0 9 (v55) (0) h (my_fr.rf) (by omega) (by omega) (by omega) (ek151_27.symm.trans (by omega)) (by omega) (by first | (intro k a b; exfalso; omega) | (intro k a b; rw [a184]; exact ka_118_0 k a (by omega)) | (intro k a b; rw [a184]; exact ka_172_0 k a b) | (intro k a b; rw [a184]; rcases (by omega : k = p118_1 ∨ k < p118_1) with q | q <;> first | (rw [my_up_ne f143 (by omega)]; exact ka_118_0 k a q) | (rw [my_up_at f143 (by omega)]; have z := sm_118_0 (8 * x3 + k); subst q; omega)) | omega) (by first | exact a182 | (intro j; rw [a182]; exact sm_118_0 j) | omega) (by omega)
        ·
          by_cases u71 : v57 = 4
          ·
            refine w_tswE (t := 251) gz_196_24 u71 (by decide) (by decide) rfl rfl ?_
            refine w_iload gz_196_251 rfl ?_
            refine w_bipush gz_196_253 (by decide) ?_
            refine w_icgt (t := 278) gz_196_255 rfl (fun u72 => ?_) (fun u72 => ?_)
            ·
              refine w_iconst gz_196_278 (by decide) ?_
              exact w_bret gz_196_279 gm_196 (by omega) (by omega) (k0 h (my_fr.rf) (by first | exact ot_172_0 | exact ot_283_0 | exact (fun _ _ => rfl) | (rw [wl_k (by omega) (by omega)]; exact RwN_rf (Int.le_refl _)) | (rw [wl_3 k3_172_0]; exact fun c c0 cw => Or.inl (nw_172_0 c c0 (by omega))) | (rw [wl_4 k4_283_0]; exact fun c c0 cw => by rcases (by omega : c < h 151 27 ∨ h 151 27 ≤ c) with q | q <;> first | exact Or.inl ⟨c, c0, q, lo_283_0 c c0 q⟩ | exact Or.inr (hi_283_0 c q (by omega))) | omega))
            ·
              refine w_aload_n gz_196_258 rfl ?_
              refine w_getX (v := 162) gz_196_259 is_151 rd_10 rfl (by decide) rfl ?_
              refine w_iload_n gz_196_262 rfl ?_
              refine w_aload_n gz_196_263 rfl ?_
              refine w_getX (v := 170) gz_196_264 is_151 rd_10 rfl (by decide) rfl ?_
              refine w_iload_n gz_196_267 rfl ?_
              refine w_iald gz_196_268 is_170 rd_69 (by omega) (by omega) (fun v75 ev75 pv75 qv75 => ?_)
              refine w_iload gz_196_269 rfl ?_
              have pj4 := pj (by omega)
              refine w_inS (k := 0) (as := [(0, v55), (0, v75), (0, x1)]) (r := [(2, 162)]) (ls0 := [(0, x1), (0, v75), (0, v55)]) gz_196_271 gm_150 rfl rfl rfl rfl rfl rfl ?_
              refine w_bipush gz_150_0 (by decide) ?_
              refine w_iload_n gz_150_2 rfl ?_
              refine w_imul gz_150_3 ⟨by omega, by omega⟩ ?_
              refine w_bipush gz_150_4 (by decide) ?_
              refine w_iload_n gz_150_6 rfl ?_
              refine w_imul gz_150_7 ⟨by omega, by omega⟩ ?_
              refine w_iadd gz_150_8 ⟨by omega, by omega⟩ ?_
              refine w_iload_n gz_150_9 rfl ?_
              refine w_iadd gz_150_10 ⟨by omega, by omega⟩ ?_
              refine w_iret gz_150_11 gm_150 ?_
              show wp l rho (d + 2) 196 274 [(2, 151), (0, x1), (0, x2), (0, x3), (0, v55), (9, 0)] [(0, (((60 * x1) + (20 * v75)) + v55)), (2, 162)] h Q
              have hi76 : 0 ≤ (((60 * x1) + (20 * v75)) + v55) := by omega
              have hi77 : (((60 * x1) + (20 * v75)) + v55) ≤ 959 := by omega
              refine w_bald gz_196_274 is_162 rd_61 (by omega) (by omega) (fun v78 ev78 pv78 qv78 => ?_)
              refine w_ifne (t := 280) gz_196_275 rfl (fun u79 => ?_) (fun u79 => ?_)
              ·
                refine w_iconst gz_196_280 (by decide) ?_
                refine w_istore (ls' := [(2, 151), (0, x1), (0, x2), (0, x3), (0, v55), (0, 1)]) gz_196_281 gm_196 rfl rfl rfl ?_
                have a182 : ∀ j : Int, h 182 j = h 182 j := fun _ => rfl
                exact J283_0 4 (v55) (1) h (my_fr.rf) (by omega) (by omega) (by omega) (by omega) (ek151_27.symm.trans (by omega)) (by omega) (by first | (intro k a b; exact a182 _) | (intro k a b; rw [a182, my_up_ne f332 (by omega)]; exact lo_283_0 k a b) | omega) (by first | (intro k a b; exfalso; omega) | (intro k a b; rw [a182]; rcases (by omega : k = h 151 27 + p283_1 - 1 ∨ k < h 151 27 + p283_1 - 1) with q | q <;> first | (rw [my_up_ne f332 (by omega)]; exact hi_283_0 k a q) | (rw [my_up_at f332 (by omega)]; omega)) | omega) (by first | (intro j q; rw [a182]; exact sm_118_0 j) | (intro j q; exact a182 j) | (intro j q; rw [a182, my_up_ne f211 (by omega)]; exact ot_172_0 j q) | (intro j q; rw [a182, my_up_ne f332 (by omega)]; exact ot_283_0 j q) | omega) (by omega) (by omega)
              ·
                refine w_iconst gz_196_278 (by decide) ?_
                exact w_bret gz_196_279 gm_196 (by omega) (by omega) (k0 h (my_fr.rf) (by first | exact ot_172_0 | exact ot_283_0 | exact (fun _ _ => rfl) | (rw [wl_k (by omega) (by omega)]; exact RwN_rf (Int.le_refl _)) | (rw [wl_3 k3_172_0]; exact fun c c0 cw => Or.inl (nw_172_0 c c0 (by omega))) | (rw [wl_4 k4_283_0]; exact fun c c0 cw => by rcases (by omega : c < h 151 27 ∨ h 151 27 ≤ c) with q | q <;> first | exact Or.inl ⟨c, c0, q, lo_283_0 c c0 q⟩ | exact Or.inr (hi_283_0 c q (by omega))) | omega))
          ·
            by_cases u80 : v57 = 5
            ·
              refine w_tswE (t := 249) gz_196_24 u80 (by decide) (by decide) rfl rfl ?_
              refine w_iconst gz_196_249 (by decide) ?_
              exact w_bret gz_196_250 gm_196 (by omega) (by omega) (k1 h (my_fr.rf) (by first | exact ot_172_0 | exact ot_283_0 | exact (fun _ _ => rfl) | (rw [wl_k (by omega) (by omega)]; exact RwN_rf (Int.le_refl _)) | (rw [wl_3 k3_172_0]; exact fun c c0 cw => Or.inl (nw_172_0 c c0 (by omega))) | (rw [wl_4 k4_283_0]; exact fun c c0 cw => by rcases (by omega : c < h 151 27 ∨ h 151 27 ≤ c) with q | q <;> first | exact Or.inl ⟨c, c0, q, lo_283_0 c c0 q⟩ | exact Or.inr (hi_283_0 c q (by omega))) | omega) (by first | exact ot_172_0 | exact ot_283_0 | exact (fun _ _ => rfl) | (rw [wl_k (by omega) (by omega)]; exact RwN_rf (Int.le_refl _)) | (rw [wl_3 k3_172_0]; exact fun c c0 cw => Or.inl (nw_172_0 c c0 (by omega))) | (rw [wl_4 k4_283_0]; exact fun c c0 cw => by rcases (by omega : c < h 151 27 ∨ h 151 27 ≤ c) with q | q <;> first | exact Or.inl ⟨c, c0, q, lo_283_0 c c0 q⟩ | exact Or.inr (hi_283_0 c q (by omega))) | omega))
            ·
              exfalso; omega
theorem c_Model_shifts2 {l : Launch} {rho : Nat → Int32} {d : Nat} {h : my_H} {Q : my_H → my_V → Prop} {x1 x2 : Int} (a1 : 0 ≤ x1) (b1 : x1 ≤ 9) (a2 : 0 ≤ x2) (b2 : x2 ≤ 9) (k0 : ∀ (h' : my_H), my_fr [(80, -1), (81, -1), (82, -1)] h h' → (∀ k : Int, 0 ≤ k → k < 8 → h' 182 (8 * x2 + k) = h 182 (8 * x1 + k)) → RwO h h' x2 → Q h' (9, 0)) : wp l rho d 197 0 [(2, 151), (0, x1), (0, x2), (9, 0)] [] h Q := by
  have J14_0 : ∀ (n : Nat) (p14_0 : Int) (h14_0 : my_H), my_fr [(80, -1), (81, -1), (82, -1)] h h14_0 → 0 ≤ p14_0 → p14_0 ≤ 8 → (∀ k : Int, 0 ≤ k → k < p14_0 → h14_0 182 (8 * x2 + k) = h 182 (8 * x1 + k)) → (∀ k : Int, p14_0 ≤ k → k < 8 → h14_0 182 (8 * x1 + k) = h 182 (8 * x1 + k)) → RwO h h14_0 x2 → 9 - p14_0 ≤ (n : Int) → wp l rho d 197 14 [(2, 151), (0, x1), (0, x2), (0, p14_0)] [] h14_0 Q := by
    intro n
    induction n with
    | zero => intro p14_0 h14_0 gh_14_0 q0_14_0 q1_14_0 cp_14_0 nt_14_0 ot_14_0 hm_14_0; exfalso; omega
    | succ n ih_14_0 =>
      intro p14_0 h14_0 gh_14_0 q0_14_0 q1_14_0 cp_14_0 nt_14_0 ot_14_0 hm_14_0
      refine w_iload_n gz_197_14 rfl ?_
      refine w_bipush gz_197_15 (by decide) ?_
      refine w_icge (t := 70) gz_197_17 rfl (fun u1 => ?_) (fun u1 => ?_)
      ·
        exact w_vret gz_197_70 gm_197 (k0 h14_0 (gh_14_0) (by first | exact ot_14_0 | exact (fun k a b => cp_14_0 k a (by omega)) | omega) (by first | exact ot_14_0 | exact (fun k a b => cp_14_0 k a (by omega)) | omega))
      ·
        refine w_aload_n gz_197_20 rfl ?_
        refine w_getX (v := 182) gz_197_21 is_151 rd_10 rfl (by decide) rfl ?_
        refine w_bipush gz_197_24 (by decide) ?_
        refine w_iload_n gz_197_26 rfl ?_
        refine w_imul gz_197_27 ⟨by omega, by omega⟩ ?_
        refine w_iload_n gz_197_28 rfl ?_
        refine w_iadd gz_197_29 ⟨by omega, by omega⟩ ?_
        refine w_aload_n gz_197_30 rfl ?_
        refine w_getX (v := 182) gz_197_31 is_151 rd_10 rfl (by decide) rfl ?_
        refine w_bipush gz_197_34 (by decide) ?_
        refine w_iload_n gz_197_36 rfl ?_
        refine w_imul gz_197_37 ⟨by omega, by omega⟩ ?_
        refine w_iload_n gz_197_38 rfl ?_
        refine w_iadd gz_197_39 ⟨by omega, by omega⟩ ?_
        refine w_iald gz_197_40 is_182 rd_81 (by omega) (by omega) (fun v4 ev4 pv4 qv4 => ?_)
        refine w_iastU gz_197_41 is_182 rd_81 (by omega) (by omega) (by omega) (fun h5 fh5 => ?_)
        have gh5 : my_fr [(80, -1), (81, -1), (82, -1)] h h5 := my_fr.up gh_14_0 is_182 fh5 rfl
        have f41 := fh5
        have k41 := my_up_self fh5
        refine w_aload_n gz_197_42 rfl ?_
        refine w_getX (v := 183) gz_197_43 is_151 rd_10 rfl (by decide) rfl ?_
        refine w_bipush gz_197_46 (by decide) ?_
        refine w_iload_n gz_197_48 rfl ?_
        refine w_imul gz_197_49 ⟨by omega, by omega⟩ ?_
        refine w_iload_n gz_197_50 rfl ?_
        refine w_iadd gz_197_51 ⟨by omega, by omega⟩ ?_
        refine w_aload_n gz_197_52 rfl ?_
        refine w_getX (v := 183) gz_197_53 is_151 rd_10 rfl (by decide) rfl ?_
        refine w_bipush gz_197_56 (by decide) ?_
        refine w_iload_n gz_197_58 rfl ?_
        refine w_imul gz_197_59 ⟨by omega, by omega⟩ ?_
        refine w_iload_n gz_197_60 rfl ?_
        refine w_iadd gz_197_61 ⟨by omega, by omega⟩ ?_
        refine w_iald gz_197_62 is_183 rd_82 (by omega) (by omega) (fun v8 ev8 pv8 qv8 => ?_)
        refine w_iast gz_197_63 is_183 rd_82 (by omega) (by omega) (by omega) (by omega) (fun h9 fh9 => ?_)
        have gh9 : my_fr [(80, -1), (81, -1), (82, -1)] h h9 := my_fr.up gh5 is_183 fh9 rfl
        refine w_iinc (ls' := [(2, 151), (0, x1), (0, x2), (0, (p14_0 + 1))]) gz_197_64 rfl gm_197 rfl rfl rfl ⟨by omega, by omega⟩ ?_
        refine w_goto (t := 14) gz_197_67 rfl ?_
        have a182 : ∀ j : Int, h9 182 j = h5 182 j := fun j => ((my_up_role fh9 is_182 is_183 rfl).trans (rfl : h5 182 j = h5 182 j))
        exact ih_14_0 ((p14_0 + 1)) h9 (gh9) (by omega) (by omega) (by first | (intro k a b; omega) | (intro k a b; rw [a182]; rcases (by omega : k = p14_0 ∨ k < p14_0) with q | q <;> first | (rw [my_up_ne f41 (by omega)]; exact cp_14_0 k a q) | (subst q; have z := nt_14_0 _ (Int.le_refl _) (by omega); rw [k41]; omega)) | omega) (by first | (intro k a b; exact a182 _) | (intro k a b; rw [a182, my_up_ne f41 (by omega)]; exact nt_14_0 k (by omega) b) | omega) (by first | (intro j q; exact a182 j) | (intro j q; rw [a182, my_up_ne f41 (by omega)]; exact ot_14_0 j q) | omega) (by omega)
  refine w_aload_n gz_197_0 rfl ?_
  refine w_getX (v := 181) gz_197_1 is_151 rd_10 rfl (by decide) rfl ?_
  refine w_iload_n gz_197_4 rfl ?_
  refine w_aload_n gz_197_5 rfl ?_
  refine w_getX (v := 181) gz_197_6 is_151 rd_10 rfl (by decide) rfl ?_
  refine w_iload_n gz_197_9 rfl ?_
  refine w_iald gz_197_10 is_181 rd_80 (by omega) (by omega) (fun v12 ev12 pv12 qv12 => ?_)
  refine w_iast gz_197_11 is_181 rd_80 (by omega) (by omega) (by omega) (by omega) (fun h13 fh13 => ?_)
  have gh13 : my_fr [(80, -1), (81, -1), (82, -1)] h h13 := my_fr.up my_fr.rf is_181 fh13 rfl
  refine w_iconst gz_197_12 (by decide) ?_
  refine w_istore_n (ls' := [(2, 151), (0, x1), (0, x2), (0, 0)]) gz_197_13 gm_197 rfl rfl rfl ?_
  have a182 : ∀ j : Int, h13 182 j = h 182 j := fun j => ((my_up_role fh13 is_182 is_181 rfl).trans (rfl : h 182 j = h 182 j))
  exact J14_0 9 (0) h13 (gh13) (by omega) (by omega) (by first | (intro k a b; omega) | (intro k a b; rw [a182]; rcases (by omega : k = p14_0 ∨ k < p14_0) with q | q <;> first | (rw [my_up_ne f41 (by omega)]; exact cp_14_0 k a q) | (subst q; have z := nt_14_0 _ (Int.le_refl _) (by omega); rw [k41]; omega)) | omega) (by first | (intro k a b; exact a182 _) | (intro k a b; rw [a182, my_up_ne f41 (by omega)]; exact nt_14_0 k (by omega) b) | omega) (by first | (intro j q; exact a182 j) | (intro j q; rw [a182, my_up_ne f41 (by omega)]; exact ot_14_0 j q) | omega) (by omega)
theorem c_Model_sums {l : Launch} {rho : Nat → Int32} {d : Nat} {h : my_H} {Q : my_H → my_V → Prop} {x1 : Int} (a1 : 0 ≤ x1) (b1 : x1 ≤ 41) (k5 : h 168 x1 = 5) (pk : Pk3 h x1 (h 151 27)) (sh : Shn h 0 (h 151 37) (h 151 27) (vb (h 151 37))) (k0 : ∀ (h' : my_H), my_fr [(10, 37), (80, -1), (81, -1), (85, -1), (86, -1)] h h' → h' 151 37 ≤ h 151 37 → Shn h' 0 (h' 151 37) 2 (vb (h' 151 37)) → Q h' (9, 0)) : wp l rho d 198 0 [(2, 151), (0, x1), (9, 0), (9, 0), (9, 0), (9, 0)] [] h Q := by
  refine v_know (x := 151) (j := 37) (b := 37) rfl is_151 rd_10 rfl (fun k151_37 ek151_37 pk151_37 qk151_37 => ?_)
  refine v_know (x := 151) (j := 27) (b := 27) rfl is_151 rd_10 rfl (fun k151_27 ek151_27 pk151_27 qk151_27 => ?_)
  have vB := vb_bd (m := h 151 37) (by omega) (by omega)
  have J120_0 : ∀ (n : Nat) (p120_0 p120_1 : Int) (h120_0 : my_H), my_fr [(10, 37), (80, -1), (81, -1), (85, -1), (86, -1)] h h120_0 → 0 ≤ p120_0 → p120_0 ≤ 10 → 0 ≤ p120_1 → p120_1 ≤ 10 → p120_0 ≤ k151_37 → p120_1 ≤ p120_0 → p120_1 ≤ k151_37 → k151_37 ≤ (p120_0 + 9) → h120_0 151 27 = k151_27 → h120_0 151 37 = p120_0 → p120_0 ≤ h 151 37 → h120_0 151 37 = p120_0 → Sbv h120_0 (vb (h 151 37)) p120_0 (h 151 37 - p120_0) → Shn h120_0 0 p120_1 2 (vb p120_0) → 11 - p120_1 ≤ (n : Int) → wp l rho d 198 120 [(2, 151), (0, x1), (0, p120_0), (0, p120_1), (9, 0), (9, 0)] [] h120_0 Q := by
    intro n
    induction n with
    | zero => intro p120_0 p120_1 h120_0 gh_120_0 q0_120_0 q1_120_0 q2_120_0 q3_120_0 q4_120_0 q5_120_0 q6_120_0 q7_120_0 c151_27_120_0 c151_37_120_0 nm_120_0 mn_120_0 sv_120_0 sn_120_0 hm_120_0; exfalso; omega
    | succ n ih_120_0 =>
      intro p120_0 p120_1 h120_0 gh_120_0 q0_120_0 q1_120_0 q2_120_0 q3_120_0 q4_120_0 q5_120_0 q6_120_0 q7_120_0 c151_27_120_0 c151_37_120_0 nm_120_0 mn_120_0 sv_120_0 sn_120_0 hm_120_0
      refine w_iload_n gz_198_120 rfl ?_
      refine w_iload_n gz_198_121 rfl ?_
      refine w_icge (t := 170) gz_198_122 rfl (fun u1 => ?_) (fun u1 => ?_)
      ·
        have ce2 : h120_0 151 37 = p120_0 := c151_37_120_0
        exact w_vret gz_198_170 gm_198 (k0 h120_0 (gh_120_0) (by first | omega | (rw [mn_120_0]; exact Shn_V sn_120_0 (by omega) (by omega) (by omega) (by omega)) | omega) (by first | omega | (rw [mn_120_0]; exact Shn_V sn_120_0 (by omega) (by omega) (by omega) (by omega)) | omega))
      ·
        refine w_aload_n gz_198_125 rfl ?_
        refine w_getX (v := 181) gz_198_126 is_151 rd_10 rfl (by decide) rfl ?_
        refine w_iload_n gz_198_129 rfl ?_
        refine w_iload_n gz_198_130 rfl ?_
        refine w_iast gz_198_131 is_181 rd_80 (by omega) (by omega) (by omega) (by omega) (fun h4 fh4 => ?_)
        have gh4 : my_fr [(10, 37), (80, -1), (81, -1), (85, -1), (86, -1)] h h4 := my_fr.up gh_120_0 is_181 fh4 rfl
        have b182 : ∀ j : Int, h4 182 j = h120_0 182 j := fun j => ((my_up_role fh4 is_182 is_181 rfl).trans (rfl : h120_0 182 j = h120_0 182 j))
        refine w_aload_n gz_198_132 rfl ?_
        refine w_getX (v := 182) gz_198_133 is_151 rd_10 rfl (by decide) rfl ?_
        refine w_bipush gz_198_136 (by decide) ?_
        refine w_iload_n gz_198_138 rfl ?_
        refine w_imul gz_198_139 ⟨by omega, by omega⟩ ?_
        refine w_aload_n gz_198_140 rfl ?_
        refine w_getX (v := 186) gz_198_141 is_151 rd_10 rfl (by decide) rfl ?_
        refine w_iload_n gz_198_144 rfl ?_
        have a186b : ∀ j : Int, h4 186 j = h120_0 186 j := fun j => ((my_up_role fh4 is_186 is_181 rfl).trans (rfl : h120_0 186 j = h120_0 186 j))
        refine w_iald gz_198_145 is_186 rd_85 (by omega) (by omega) (fun v7 ev7 pv7 qv7 => ?_)
        have ga : v7 ≤ vb p120_0 := by have z := (sv_120_0 p120_1 (by omega) (by omega)).1; have z2 := sb_vb (m := h 151 37) (n := p120_0) (by omega) (by omega) (by omega); have z3 := a186b p120_1; omega
        refine w_iastU gz_198_146 is_182 rd_81 (by omega) (by omega) (by omega) (fun h8 fh8 => ?_)
        have gh8 : my_fr [(10, 37), (80, -1), (81, -1), (85, -1), (86, -1)] h h8 := my_fr.up gh4 is_182 fh8 rfl
        have f146 := fh8
        refine w_aload_n gz_198_147 rfl ?_
        refine w_getX (v := 182) gz_198_148 is_151 rd_10 rfl (by decide) rfl ?_
        refine w_bipush gz_198_151 (by decide) ?_
        refine w_iload_n gz_198_153 rfl ?_
        refine w_imul gz_198_154 ⟨by omega, by omega⟩ ?_
        refine w_iconst gz_198_155 (by decide) ?_
        refine w_iadd gz_198_156 ⟨by omega, by omega⟩ ?_
        refine w_aload_n gz_198_157 rfl ?_
        refine w_getX (v := 187) gz_198_158 is_151 rd_10 rfl (by decide) rfl ?_
        refine w_iload_n gz_198_161 rfl ?_
        have a187b : ∀ j : Int, h8 187 j = h120_0 187 j := fun j => ((my_up_role fh8 is_187 is_182 rfl).trans ((my_up_role fh4 is_187 is_181 rfl).trans (rfl : h120_0 187 j = h120_0 187 j)))
        refine w_iald gz_198_162 is_187 rd_86 (by omega) (by omega) (fun v11 ev11 pv11 qv11 => ?_)
        have gb : v11 ≤ vb p120_0 := by have z := (sv_120_0 p120_1 (by omega) (by omega)).2; have z2 := sb_vb (m := h 151 37) (n := p120_0) (by omega) (by omega) (by omega); have z3 := a187b p120_1; omega
        refine w_iastU gz_198_163 is_182 rd_81 (by omega) (by omega) (by omega) (fun h12 fh12 => ?_)
        have gh12 : my_fr [(10, 37), (80, -1), (81, -1), (85, -1), (86, -1)] h h12 := my_fr.up gh8 is_182 fh12 rfl
        have f163 := fh12
        refine w_iinc (ls' := [(2, 151), (0, x1), (0, p120_0), (0, (p120_1 + 1)), (9, 0), (9, 0)]) gz_198_164 rfl gm_198 rfl rfl rfl ⟨by omega, by omega⟩ ?_
        refine w_goto (t := 120) gz_198_167 rfl ?_
        have a182 : ∀ j : Int, h12 182 j = h12 182 j := fun j => rfl
        have a186 : ∀ j : Int, h12 186 j = h120_0 186 j := fun j => ((my_up_role fh12 is_186 is_182 rfl).trans ((my_up_role fh8 is_186 is_182 rfl).trans ((my_up_role fh4 is_186 is_181 rfl).trans (rfl : h120_0 186 j = h120_0 186 j))))
        have a187 : ∀ j : Int, h12 187 j = h120_0 187 j := fun j => ((my_up_role fh12 is_187 is_182 rfl).trans ((my_up_role fh8 is_187 is_182 rfl).trans ((my_up_role fh4 is_187 is_181 rfl).trans (rfl : h120_0 187 j = h120_0 187 j))))
        have ce13 : h12 151 37 = p120_0 := ((my_up_role fh12 is_151 is_182 rfl).trans ((my_up_role fh8 is_151 is_182 rfl).trans ((my_up_role fh4 is_151 is_181 rfl).trans c151_37_120_0)))
        exact ih_120_0 (p120_0) ((p120_1 + 1)) h12 (gh12) (by omega) (by omega) (by omega) (by omega) (by omega) (by omega) (by omega) (by omega) (((my_up_role fh12 is_151 is_182 rfl).trans ((my_up_role fh8 is_151 is_182 rfl).trans ((my_up_role fh4 is_151 is_181 rfl).trans c151_27_120_0))).trans (by omega)) (((my_up_role fh12 is_151 is_182 rfl).trans ((my_up_role fh8 is_151 is_182 rfl).trans ((my_up_role fh4 is_151 is_181 rfl).trans c151_37_120_0))).trans (by omega)) (by omega) (by omega) (by first | exact Sbv_0 | exact Sbv_eq a186 a187 sv_33_0 | exact Sbv_eq a186 a187 sv_4_0 | exact Sbv_eq a186 a187 sv_120_0 | exact Sbv_d (Sbv_eq a186 a187 sv_4_0) (by omega) | exact Sbv_m (by omega) sv_33_0 f106 (by omega) (by omega) | exact Sbv_n (by omega) (by omega) nm_33_0 (by omega) (by omega) sv_33_0 f70 (by omega) f77 f106 (by omega) (by omega) (by omega) (by omega) | omega) (by first | (intro i c a b; exfalso; omega) | exact Shn_eq a182 (Shn_2 (Shn_eq b182 sn_120_0) f146 f163 ga gb (by omega)) | omega) (by omega)
  have J4_0 : ∀ (n : Nat) (p4_0 p4_1 : Int) (h4_0 : my_H), my_fr [(10, 37), (80, -1), (81, -1), (85, -1), (86, -1)] h h4_0 → 0 ≤ p4_0 → p4_0 ≤ 10 → 0 ≤ p4_1 → p4_1 ≤ 10 → p4_0 ≤ p4_1 → p4_0 ≤ k151_37 → p4_1 ≤ (p4_0 + 9) → p4_1 ≤ k151_37 → h4_0 151 27 = k151_27 → h4_0 151 37 = k151_37 → p4_0 ≤ p4_1 → p4_1 ≤ h 151 37 → (∀ j : Int, h4_0 182 j = h 182 j) → Sbv h4_0 (vb (h 151 37)) p4_0 (p4_1 - p4_0) → 11 - p4_1 ≤ (n : Int) → wp l rho d 198 4 [(2, 151), (0, x1), (0, p4_0), (0, p4_1), (9, 0), (9, 0)] [] h4_0 Q := by
    intro n
    induction n with
    | zero => intro p4_0 p4_1 h4_0 gh_4_0 q0_4_0 q1_4_0 q2_4_0 q3_4_0 q4_4_0 q5_4_0 q6_4_0 q7_4_0 c151_27_4_0 c151_37_4_0 nm_4_0 im_4_0 s2_4_0 sv_4_0 hm_4_0; exfalso; omega
    | succ n ih_4_0 =>
      intro p4_0 p4_1 h4_0 gh_4_0 q0_4_0 q1_4_0 q2_4_0 q3_4_0 q4_4_0 q5_4_0 q6_4_0 q7_4_0 c151_27_4_0 c151_37_4_0 nm_4_0 im_4_0 s2_4_0 sv_4_0 hm_4_0
      have J33_0 : ∀ (n : Nat) (p33_0 p33_1 : Int) (h33_0 : my_H), my_fr [(10, 37), (80, -1), (81, -1), (85, -1), (86, -1)] h h33_0 → p4_0 ≤ 9 → p4_1 ≤ 9 → 0 ≤ p33_0 → 0 ≤ p33_1 → p33_1 ≤ 9 → 1 ≤ k151_37 → p33_1 ≤ p4_0 → p33_1 ≤ p4_1 → p33_1 ≤ (k151_37 - 1) → p4_0 ≤ p4_1 → p4_0 ≤ (k151_37 - 1) → p4_1 ≤ (k151_37 - 1) → h33_0 151 27 = k151_27 → h33_0 151 37 = k151_37 → p4_0 ≤ p4_1 → p4_1 < h 151 37 → (∀ j : Int, h33_0 182 j = h 182 j) → Sbv h33_0 (vb (h 151 37)) p4_0 (p4_1 - p4_0) → p33_1 ≤ p4_0 → p33_0 ≤ vb (h 151 37) → 10 - p33_1 ≤ (n : Int) → wp l rho d 198 33 [(2, 151), (0, x1), (0, p4_0), (0, p4_1), (0, p33_0), (0, p33_1)] [] h33_0 Q := by
        intro n
        induction n with
        | zero => intro p33_0 p33_1 h33_0 gh_33_0 q0_33_0 q1_33_0 q2_33_0 q3_33_0 q4_33_0 q5_33_0 q6_33_0 q7_33_0 q8_33_0 q9_33_0 q10_33_0 q11_33_0 c151_27_33_0 c151_37_33_0 nm_33_0 im_33_0 s2_33_0 sv_33_0 kn_33_0 bv_33_0 hm_33_0; exfalso; omega
        | succ n ih_33_0 =>
          intro p33_0 p33_1 h33_0 gh_33_0 q0_33_0 q1_33_0 q2_33_0 q3_33_0 q4_33_0 q5_33_0 q6_33_0 q7_33_0 q8_33_0 q9_33_0 q10_33_0 q11_33_0 c151_27_33_0 c151_37_33_0 nm_33_0 im_33_0 s2_33_0 sv_33_0 kn_33_0 bv_33_0 hm_33_0
          refine w_iload gz_198_33 rfl ?_
          refine w_iload_n gz_198_35 rfl ?_
          refine w_icge (t := 57) gz_198_36 rfl (fun u14 => ?_) (fun u14 => ?_)
          ·
            refine w_iload gz_198_57 rfl ?_
            refine w_iload_n gz_198_59 rfl ?_
            refine w_icne (t := 81) gz_198_60 rfl (fun u15 => by exfalso; omega) (fun u15 => ?_)
            refine w_aload_n gz_198_63 rfl ?_
            refine w_getX (v := 186) gz_198_64 is_151 rd_10 rfl (by decide) rfl ?_
            refine w_iload_n gz_198_67 rfl ?_
            refine w_iload gz_198_68 rfl ?_
            refine w_iastU gz_198_70 is_186 rd_85 (by omega) (by omega) (by omega) (fun h17 fh17 => ?_)
            have gh17 : my_fr [(10, 37), (80, -1), (81, -1), (85, -1), (86, -1)] h h17 := my_fr.up gh_33_0 is_186 fh17 rfl
            have f70 := fh17
            refine w_aload_n gz_198_71 rfl ?_
            refine w_getX (v := 187) gz_198_72 is_151 rd_10 rfl (by decide) rfl ?_
            refine w_iload_n gz_198_75 rfl ?_
            refine w_iconst gz_198_76 (by decide) ?_
            refine w_iast gz_198_77 is_187 rd_86 (by omega) (by omega) (by omega) (by omega) (fun h19 fh19 => ?_)
            have gh19 : my_fr [(10, 37), (80, -1), (81, -1), (85, -1), (86, -1)] h h19 := my_fr.up gh17 is_187 fh19 rfl
            have f77 := fh19
            refine w_iinc (ls' := [(2, 151), (0, x1), (0, (p4_0 + 1)), (0, p4_1), (0, p33_0), (0, p33_1)]) gz_198_78 rfl gm_198 rfl rfl rfl ⟨by omega, by omega⟩ ?_
            refine w_aload_n gz_198_81 rfl ?_
            refine w_getX (v := 187) gz_198_82 is_151 rd_10 rfl (by decide) rfl ?_
            refine w_iload gz_198_85 rfl ?_
            refine w_dup2 gz_198_87 rfl rfl ?_
            refine w_iald gz_198_88 is_187 rd_86 (by omega) (by omega) (fun v21 ev21 pv21 qv21 => ?_)
            have b8 : (p33_1 = p4_0 → v21 = 0) ∧ (p33_1 ≠ p4_0 → v21 ≤ sb (vb (h 151 37)) (p4_1 - p4_0)) := by first | exact ⟨fun q => absurd q (by omega), fun q => by have z := (sv_33_0 p33_1 (by omega) (by omega)).2; omega⟩ | exact ⟨fun q => by rw [show v21 = h19 187 p33_1 by omega, my_up_at f77 (by omega)], fun q => absurd (by omega) q⟩ | omega
            refine w_aload_n gz_198_89 rfl ?_
            refine w_getX (v := 182) gz_198_90 is_151 rd_10 rfl (by decide) rfl ?_
            refine w_bipush gz_198_93 (by decide) ?_
            refine w_iload_n gz_198_95 rfl ?_
            refine w_imul gz_198_96 ⟨by omega, by omega⟩ ?_
            refine w_aload_n gz_198_97 rfl ?_
            refine w_getX (v := 170) gz_198_98 is_151 rd_10 rfl (by decide) rfl ?_
            refine w_iload_n gz_198_101 rfl ?_
            refine w_iald gz_198_102 is_170 rd_69 (by omega) (by omega) (fun v24 ev24 pv24 qv24 => ?_)
            have f170 : h19 170 x1 = h 170 x1 := my_fr.at gh19 is_170 rfl
            have n0 : v24 = h 170 x1 := by omega
            have n8 := pk.2.1 k5
            have t182 : ∀ j : Int, h19 182 j = h33_0 182 j := fun j => ((my_up_role fh19 is_182 is_187 rfl).trans ((my_up_role fh17 is_182 is_186 rfl).trans (rfl : h33_0 182 j = h33_0 182 j)))
            refine w_iadd gz_198_103 ⟨by omega, by omega⟩ ?_
            have hi25 : 0 ≤ ((8 * p4_1) + v24) := by omega
            have hi26 : ((8 * p4_1) + v24) ≤ 79 := by omega
            refine w_iald gz_198_104 is_182 rd_81 (by omega) (by omega) (fun v27 ev27 pv27 qv27 => ?_)
            have bs : v27 ≤ vb (h 151 37) := by have z := sh p4_1 (h 170 x1) (by omega) (by omega) (by omega) n8; rw [← n0, ← s2_33_0, ← t182] at z; omega
            have sz := sb_le (V := vb (h 151 37)) (d := p4_1 - p4_0) (by omega) (by omega) (by omega) (by omega)
            have b9 : v21 ≤ 214016 := by omega
            have hi28 : 0 ≤ v27 := by omega
            have hi29 : v27 ≤ 19456 := by omega
            have hi30 : 0 ≤ v21 := by omega
            have hi31 : v21 ≤ 214016 := by omega
            refine w_iadd gz_198_105 ⟨by omega, by omega⟩ ?_
            have hi32 : 0 ≤ (v21 + v27) := by omega
            have hi33 : (v21 + v27) ≤ 2147483647 := by omega
            refine w_iast gz_198_106 is_187 rd_86 (by omega) (by omega) (by omega) (by omega) (fun h34 fh34 => ?_)
            have gh34 : my_fr [(10, 37), (80, -1), (81, -1), (85, -1), (86, -1)] h h34 := my_fr.up gh19 is_187 fh34 rfl
            have f106 := fh34
            refine w_iinc (ls' := [(2, 151), (0, x1), (0, (p4_0 + 1)), (0, (p4_1 + 1)), (0, p33_0), (0, p33_1)]) gz_198_107 rfl gm_198 rfl rfl rfl ⟨by omega, by omega⟩ ?_
            refine w_goto (t := 4) gz_198_110 rfl ?_
            have a182 : ∀ j : Int, h34 182 j = h33_0 182 j := fun j => ((my_up_role fh34 is_182 is_187 rfl).trans ((my_up_role fh19 is_182 is_187 rfl).trans ((my_up_role fh17 is_182 is_186 rfl).trans (rfl : h33_0 182 j = h33_0 182 j))))
            have a186 : ∀ j : Int, h34 186 j = h17 186 j := fun j => ((my_up_role fh34 is_186 is_187 rfl).trans ((my_up_role fh19 is_186 is_187 rfl).trans (rfl : h17 186 j = h17 186 j)))
            have a187 : ∀ j : Int, h34 187 j = h34 187 j := fun j => rfl
            refine w_weak (ls' := [(2, 151), (0, x1), (0, (p4_0 + 1)), (0, (p4_1 + 1)), (9, 0), (9, 0)]) (wk_e (wk_e (wk_e (wk_e (wk_9 (wk_9 wk_n)))))) ?_
            exact ih_4_0 ((p4_0 + 1)) ((p4_1 + 1)) h34 (gh34) (by omega) (by omega) (by omega) (by omega) (by omega) (by omega) (by omega) (by omega) (((my_up_role fh34 is_151 is_187 rfl).trans ((my_up_role fh19 is_151 is_187 rfl).trans ((my_up_role fh17 is_151 is_186 rfl).trans c151_27_33_0))).trans (by omega)) (((my_up_role fh34 is_151 is_187 rfl).trans ((my_up_role fh19 is_151 is_187 rfl).trans ((my_up_role fh17 is_151 is_186 rfl).trans c151_37_33_0))).trans (by omega)) (by omega) (by omega) (by first | exact a182 | (intro j; rw [a182]; first | exact s2_33_0 j | exact s2_4_0 j) | omega) (by first | exact Sbv_0 | exact Sbv_eq a186 a187 sv_33_0 | exact Sbv_eq a186 a187 sv_4_0 | exact Sbv_eq a186 a187 sv_120_0 | exact Sbv_d (Sbv_eq a186 a187 sv_4_0) (by omega) | exact Sbv_m (by omega) sv_33_0 f106 (by omega) (by omega) | exact Sbv_n (by omega) (by omega) nm_33_0 (by omega) (by omega) sv_33_0 f70 (by omega) f77 f106 (by omega) (by omega) (by omega) (by omega) | omega) (by omega)
          ·
            refine w_aload_n gz_198_39 rfl ?_
            refine w_getX (v := 186) gz_198_40 is_151 rd_10 rfl (by decide) rfl ?_
            refine w_iload gz_198_43 rfl ?_
            refine w_iald gz_198_45 is_186 rd_85 (by omega) (by omega) (fun v36 ev36 pv36 qv36 => ?_)
            refine w_iload gz_198_46 rfl ?_
            refine w_iceq (t := 57) gz_198_48 rfl (fun u37 => ?_) (fun u37 => ?_)
            ·
              refine w_iload gz_198_57 rfl ?_
              refine w_iload_n gz_198_59 rfl ?_
              refine w_icne (t := 81) gz_198_60 rfl (fun u38 => ?_) (fun u38 => by exfalso; omega)
              refine w_aload_n gz_198_81 rfl ?_
              refine w_getX (v := 187) gz_198_82 is_151 rd_10 rfl (by decide) rfl ?_
              refine w_iload gz_198_85 rfl ?_
              refine w_dup2 gz_198_87 rfl rfl ?_
              refine w_iald gz_198_88 is_187 rd_86 (by omega) (by omega) (fun v40 ev40 pv40 qv40 => ?_)
              have b8 : (p33_1 = p4_0 → v40 = 0) ∧ (p33_1 ≠ p4_0 → v40 ≤ sb (vb (h 151 37)) (p4_1 - p4_0)) := by first | exact ⟨fun q => absurd q (by omega), fun q => by have z := (sv_33_0 p33_1 (by omega) (by omega)).2; omega⟩ | exact ⟨fun q => by rw [show v40 = h33_0 187 p33_1 by omega, my_up_at f77 (by omega)], fun q => absurd (by omega) q⟩ | omega
              refine w_aload_n gz_198_89 rfl ?_
              refine w_getX (v := 182) gz_198_90 is_151 rd_10 rfl (by decide) rfl ?_
              refine w_bipush gz_198_93 (by decide) ?_
              refine w_iload_n gz_198_95 rfl ?_
              refine w_imul gz_198_96 ⟨by omega, by omega⟩ ?_
              refine w_aload_n gz_198_97 rfl ?_
              refine w_getX (v := 170) gz_198_98 is_151 rd_10 rfl (by decide) rfl ?_
              refine w_iload_n gz_198_101 rfl ?_
              refine w_iald gz_198_102 is_170 rd_69 (by omega) (by omega) (fun v43 ev43 pv43 qv43 => ?_)
              have f170 : h33_0 170 x1 = h 170 x1 := my_fr.at gh_33_0 is_170 rfl
              have n0 : v43 = h 170 x1 := by omega
              have n8 := pk.2.1 k5
              have t182 : ∀ j : Int, h33_0 182 j = h33_0 182 j := fun _ => rfl
              refine w_iadd gz_198_103 ⟨by omega, by omega⟩ ?_
              have hi44 : 0 ≤ ((8 * p4_1) + v43) := by omega
              have hi45 : ((8 * p4_1) + v43) ≤ 79 := by omega
              refine w_iald gz_198_104 is_182 rd_81 (by omega) (by omega) (fun v46 ev46 pv46 qv46 => ?_)
              have bs : v46 ≤ vb (h 151 37) := by have z := sh p4_1 (h 170 x1) (by omega) (by omega) (by omega) n8; rw [← n0, ← s2_33_0, ← t182] at z; omega
              have sz := sb_le (V := vb (h 151 37)) (d := p4_1 - p4_0) (by omega) (by omega) (by omega) (by omega)
              have b9 : v40 ≤ 214016 := by omega
              have hi47 : 0 ≤ v46 := by omega
              have hi48 : v46 ≤ 19456 := by omega
              have hi49 : 0 ≤ v40 := by omega
              have hi50 : v40 ≤ 214016 := by omega
              refine w_iadd gz_198_105 ⟨by omega, by omega⟩ ?_
              have hi51 : 0 ≤ (v40 + v46) := by omega
              have hi52 : (v40 + v46) ≤ 2147483647 := by omega
              refine w_iast gz_198_106 is_187 rd_86 (by omega) (by omega) (by omega) (by omega) (fun h53 fh53 => ?_)
              have gh53 : my_fr [(10, 37), (80, -1), (81, -1), (85, -1), (86, -1)] h h53 := my_fr.up gh_33_0 is_187 fh53 rfl
              have f106 := fh53
              refine w_iinc (ls' := [(2, 151), (0, x1), (0, p4_0), (0, (p4_1 + 1)), (0, p33_0), (0, p33_1)]) gz_198_107 rfl gm_198 rfl rfl rfl ⟨by omega, by omega⟩ ?_
              refine w_goto (t := 4) gz_198_110 rfl ?_
              have a182 : ∀ j : Int, h53 182 j = h33_0 182 j := fun j => ((my_up_role fh53 is_182 is_187 rfl).trans (rfl : h33_0 182 j = h33_0 182 j))
              have a186 : ∀ j : Int, h53 186 j = h33_0 186 j := fun j => ((my_up_role fh53 is_186 is_187 rfl).trans (rfl : h33_0 186 j = h33_0 186 j))
              have a187 : ∀ j : Int, h53 187 j = h53 187 j := fun j => rfl
              refine w_weak (ls' := [(2, 151), (0, x1), (0, p4_0), (0, (p4_1 + 1)), (9, 0), (9, 0)]) (wk_e (wk_e (wk_e (wk_e (wk_9 (wk_9 wk_n)))))) ?_
              exact ih_4_0 (p4_0) ((p4_1 + 1)) h53 (gh53) (by omega) (by omega) (by omega) (by omega) (by omega) (by omega) (by omega) (by omega) (((my_up_role fh53 is_151 is_187 rfl).trans c151_27_33_0).trans (by omega)) (((my_up_role fh53 is_151 is_187 rfl).trans c151_37_33_0).trans (by omega)) (by omega) (by omega) (by first | exact a182 | (intro j; rw [a182]; first | exact s2_33_0 j | exact s2_4_0 j) | omega) (by first | exact Sbv_0 | exact Sbv_eq a186 a187 sv_33_0 | exact Sbv_eq a186 a187 sv_4_0 | exact Sbv_eq a186 a187 sv_120_0 | exact Sbv_d (Sbv_eq a186 a187 sv_4_0) (by omega) | exact Sbv_m (by omega) sv_33_0 f106 (by omega) (by omega) | exact Sbv_n (by omega) (by omega) nm_33_0 (by omega) (by omega) sv_33_0 f70 (by omega) f77 f106 (by omega) (by omega) (by omega) (by omega) | omega) (by omega)
            ·
              refine w_iinc (ls' := [(2, 151), (0, x1), (0, p4_0), (0, p4_1), (0, p33_0), (0, (p33_1 + 1))]) gz_198_51 rfl gm_198 rfl rfl rfl ⟨by omega, by omega⟩ ?_
              refine w_goto (t := 33) gz_198_54 rfl ?_
              have a182 : ∀ j : Int, h33_0 182 j = h33_0 182 j := fun _ => rfl
              have a186 : ∀ j : Int, h33_0 186 j = h33_0 186 j := fun _ => rfl
              have a187 : ∀ j : Int, h33_0 187 j = h33_0 187 j := fun _ => rfl
              exact ih_33_0 (p33_0) ((p33_1 + 1)) h33_0 (gh_33_0) (by omega) (by omega) (by omega) (by omega) (by omega) (by omega) (by omega) (by omega) (by omega) (by omega) (by omega) (by omega) (c151_27_33_0.trans (by omega)) (c151_37_33_0.trans (by omega)) (by omega) (by omega) (by first | exact a182 | (intro j; rw [a182]; first | exact s2_33_0 j | exact s2_4_0 j) | omega) (by first | exact Sbv_0 | exact Sbv_eq a186 a187 sv_33_0 | exact Sbv_eq a186 a187 sv_4_0 | exact Sbv_eq a186 a187 sv_120_0 | exact Sbv_d (Sbv_eq a186 a187 sv_4_0) (by omega) | exact Sbv_m (by omega) sv_33_0 f106 (by omega) (by omega) | exact Sbv_n (by omega) (by omega) nm_33_0 (by omega) (by omega) sv_33_0 f70 (by omega) f77 f106 (by omega) (by omega) (by omega) (by omega) | omega) (by omega) (by omega) (by omega)
      refine w_iload_n gz_198_4 rfl ?_
      refine w_aload_n gz_198_5 rfl ?_
      refine v_getI (j := 37) gz_198_6 rfl is_151 rd_10 rfl (fun v54 ev54 pv54 qv54 => ?_)
      have zv54 := ev54.trans c151_37_4_0
      refine w_icge (t := 113) gz_198_9 rfl (fun u55 => ?_) (fun u55 => ?_)
      ·
        refine w_aload_n gz_198_113 rfl ?_
        refine w_iload_n gz_198_114 rfl ?_
        refine v_putI (j := 37) gz_198_115 rfl is_151 rd_10 rfl (by omega) (by omega) rfl (fun h56 fh56 => ?_)
        have gh56 : my_fr [(10, 37), (80, -1), (81, -1), (85, -1), (86, -1)] h h56 := my_fr.up gh_4_0 is_151 fh56 rfl
        refine w_iconst gz_198_118 (by decide) ?_
        refine w_istore_n (ls' := [(2, 151), (0, x1), (0, p4_0), (0, 0), (9, 0), (9, 0)]) gz_198_119 gm_198 rfl rfl rfl ?_
        have a182 : ∀ j : Int, h56 182 j = h4_0 182 j := fun j => ((my_up_role fh56 is_182 is_151 rfl).trans (rfl : h4_0 182 j = h4_0 182 j))
        have a186 : ∀ j : Int, h56 186 j = h4_0 186 j := fun j => ((my_up_role fh56 is_186 is_151 rfl).trans (rfl : h4_0 186 j = h4_0 186 j))
        have a187 : ∀ j : Int, h56 187 j = h4_0 187 j := fun j => ((my_up_role fh56 is_187 is_151 rfl).trans (rfl : h4_0 187 j = h4_0 187 j))
        have ce57 : h56 151 37 = p4_0 := (my_up_self fh56)
        exact J120_0 11 (p4_0) (0) h56 (gh56) (by omega) (by omega) (by omega) (by omega) (by omega) (by omega) (by omega) (by omega) (((my_up_fld fh56 (by decide)).trans c151_27_4_0).trans (by omega)) ((my_up_self fh56).trans (by omega)) (by omega) (by omega) (by first | exact Sbv_0 | exact Sbv_eq a186 a187 sv_33_0 | exact Sbv_eq a186 a187 sv_4_0 | exact Sbv_eq a186 a187 sv_120_0 | exact Sbv_d (Sbv_eq a186 a187 sv_4_0) (by omega) | exact Sbv_m (by omega) sv_33_0 f106 (by omega) (by omega) | exact Sbv_n (by omega) (by omega) nm_33_0 (by omega) (by omega) sv_33_0 f70 (by omega) f77 f106 (by omega) (by omega) (by omega) (by omega) | omega) (by first | (intro i c a b; exfalso; omega) | exact Shn_eq a182 (Shn_2 (Shn_eq b182 sn_120_0) f146 f163 ga gb (by omega)) | omega) (by omega)
      ·
        refine w_aload_n gz_198_12 rfl ?_
        refine w_getX (v := 182) gz_198_13 is_151 rd_10 rfl (by decide) rfl ?_
        refine w_bipush gz_198_16 (by decide) ?_
        refine w_iload_n gz_198_18 rfl ?_
        refine w_imul gz_198_19 ⟨by omega, by omega⟩ ?_
        refine w_aload_n gz_198_20 rfl ?_
        refine w_getX (v := 169) gz_198_21 is_151 rd_10 rfl (by decide) rfl ?_
        refine w_iload_n gz_198_24 rfl ?_
        refine w_iald gz_198_25 is_169 rd_68 (by omega) (by omega) (fun v60 ev60 pv60 qv60 => ?_)
        have f169 : h4_0 169 x1 = h 169 x1 := my_fr.at gh_4_0 is_169 rfl
        have c0 : v60 = h 169 x1 := by omega
        refine w_iadd gz_198_26 ⟨by omega, by omega⟩ ?_
        refine w_iald gz_198_27 is_182 rd_81 (by omega) (by omega) (fun v61 ev61 pv61 qv61 => ?_)
        have bv : v61 ≤ vb (h 151 37) := by have z := sh p4_1 (h 169 x1) (by omega) (by omega) (by omega) (pk.1 (by omega)); rw [← c0, ← s2_4_0] at z; omega
        refine w_istore (ls' := [(2, 151), (0, x1), (0, p4_0), (0, p4_1), (0, v61), (9, 0)]) gz_198_28 gm_198 rfl rfl rfl ?_
        refine w_iconst gz_198_30 (by decide) ?_
        refine w_istore (ls' := [(2, 151), (0, x1), (0, p4_0), (0, p4_1), (0, v61), (0, 0)]) gz_198_31 gm_198 rfl rfl rfl ?_
        have a182 : ∀ j : Int, h4_0 182 j = h4_0 182 j := fun _ => rfl
        have a186 : ∀ j : Int, h4_0 186 j = h4_0 186 j := fun _ => rfl
        have a187 : ∀ j : Int, h4_0 187 j = h4_0 187 j := fun _ => rfl
        exact J33_0 10 (v61) (0) h4_0 (gh_4_0) (by omega) (by omega) (by omega) (by omega) (by omega) (by omega) (by omega) (by omega) (by omega) (by omega) (by omega) (by omega) (c151_27_4_0.trans (by omega)) (ev54.symm.trans (by omega)) (by omega) (by omega) (by first | exact a182 | (intro j; rw [a182]; first | exact s2_33_0 j | exact s2_4_0 j) | omega) (by first | exact Sbv_0 | exact Sbv_eq a186 a187 sv_33_0 | exact Sbv_eq a186 a187 sv_4_0 | exact Sbv_eq a186 a187 sv_120_0 | exact Sbv_d (Sbv_eq a186 a187 sv_4_0) (by omega) | exact Sbv_m (by omega) sv_33_0 f106 (by omega) (by omega) | exact Sbv_n (by omega) (by omega) nm_33_0 (by omega) (by omega) sv_33_0 f70 (by omega) f77 f106 (by omega) (by omega) (by omega) (by omega) | omega) (by omega) (by omega) (by omega)
  refine w_iconst gz_198_0 (by decide) ?_
  refine w_istore_n (ls' := [(2, 151), (0, x1), (0, 0), (9, 0), (9, 0), (9, 0)]) gz_198_1 gm_198 rfl rfl rfl ?_
  refine w_iconst gz_198_2 (by decide) ?_
  refine w_istore_n (ls' := [(2, 151), (0, x1), (0, 0), (0, 0), (9, 0), (9, 0)]) gz_198_3 gm_198 rfl rfl rfl ?_
  have a182 : ∀ j : Int, h 182 j = h 182 j := fun _ => rfl
  have a186 : ∀ j : Int, h 186 j = h 186 j := fun _ => rfl
  have a187 : ∀ j : Int, h 187 j = h 187 j := fun _ => rfl
  exact J4_0 11 (0) (0) h (my_fr.rf) (by omega) (by omega) (by omega) (by omega) (by omega) (by omega) (by omega) (by omega) (ek151_27.symm.trans (by omega)) (ek151_37.symm.trans (by omega)) (by omega) (by omega) (by first | exact a182 | (intro j; rw [a182]; first | exact s2_33_0 j | exact s2_4_0 j) | omega) (by first | exact Sbv_0 | exact Sbv_eq a186 a187 sv_33_0 | exact Sbv_eq a186 a187 sv_4_0 | exact Sbv_eq a186 a187 sv_120_0 | exact Sbv_d (Sbv_eq a186 a187 sv_4_0) (by omega) | exact Sbv_m (by omega) sv_33_0 f106 (by omega) (by omega) | exact Sbv_n (by omega) (by omega) nm_33_0 (by omega) (by omega) sv_33_0 f70 (by omega) f77 f106 (by omega) (by omega) (by omega) (by omega) | omega) (by omega)
theorem c_Model_readCut2_f0 {l : Launch} {rho : Nat → Int32} {d : Nat} {h : my_H} {Q : my_H → my_V → Prop} {x1 : Int} {wv : Int} (a1 : 36 ≤ x1) (b1 : x1 ≤ 41) (cf : h 151 8 = 0) (hwv : wv ≤ 5) (hwv0 : 0 ≤ wv) (n_Tok : Tok h) (n_Mq : Mq h wv) (hp : x1 = 36 + h 167 6) (k0 : ∀ (h' : my_H), my_fr [(10, 7), (10, 8), (67, -1), (68, -1), (69, -1)] h h' → 1 ≤ h' 151 8 → h' 151 8 ≤ 16005 → h 151 7 ≤ h' 151 7 → Tok h' → Mq h' wv → Q h' (9, 0)) (k1 : ∀ (h' : my_H), my_fr [(10, 7), (10, 8), (67, -1), (68, -1), (69, -1)] h h' → 1 ≤ h' 151 7 → h' 151 7 ≤ 1001 → h' 151 8 = 0 → PaneOk h' x1 → Pk3 h' x1 (h' 151 27) → h 151 7 ≤ h' 151 7 → Tok h' → Mq h' wv → Q h' (9, 0)) : wp l rho (d + 2) 186 0 [(2, 151), (0, x1), (9, 0), (9, 0)] [] h Q := by
  refine v_know (x := 151) (j := 7) (b := 7) rfl is_151 rd_10 rfl (fun k151_7 ek151_7 pk151_7 qk151_7 => ?_)
  refine v_know (x := 151) (j := 27) (b := 27) rfl is_151 rd_10 rfl (fun k151_27 ek151_27 pk151_27 qk151_27 => ?_)
  have J20_0 : ∀ (n : Nat) (p20_0 p20_1 p20_2 : Int) (h20_0 : my_H), my_fr [(10, 7), (10, 8), (67, -1), (68, -1), (69, -1)] h h20_0 → (-1) ≤ p20_0 → p20_0 ≤ 2 → 0 ≤ p20_1 → p20_1 ≤ 3 → 0 ≤ p20_2 → p20_2 ≤ 16004 → p20_0 ≤ (p20_1 - 1) → h20_0 151 27 = k151_27 → h20_0 151 8 = p20_2 → Tok h20_0 → Mq h20_0 wv → h20_0 167 6 = h 167 6 → (0 ≤ p20_0 → h20_0 153 (h20_0 151 7) = 1 ∧ h20_0 151 8 = 0) → h 151 7 ≤ h20_0 151 7 → (h20_0 151 8 = 0 → h20_0 169 x1 < k151_27) → 4 - p20_1 ≤ (n : Int) → wp l rho (d + 2) 186 20 [(2, 151), (0, x1), (0, p20_0), (0, p20_1)] [] h20_0 Q := by
    intro n
    induction n with
    | zero => intro p20_0 p20_1 p20_2 h20_0 gh_20_0 q0_20_0 q1_20_0 q2_20_0 q3_20_0 q4_20_0 q5_20_0 q6_20_0 c151_27_20_0 c151_8_20_0 n_Tok_20_0 n_Mq_20_0 n_P6_20_0 kw_20_0 am_20_0 k9_20_0 hm_20_0; exfalso; omega
    | succ n ih_20_0 =>
      intro p20_0 p20_1 p20_2 h20_0 gh_20_0 q0_20_0 q1_20_0 q2_20_0 q3_20_0 q4_20_0 q5_20_0 q6_20_0 c151_27_20_0 c151_8_20_0 n_Tok_20_0 n_Mq_20_0 n_P6_20_0 kw_20_0 am_20_0 k9_20_0 hm_20_0
      refine w_iload_n gz_186_20 rfl ?_
      refine w_iconst gz_186_21 (by decide) ?_
      refine w_icge (t := 47) gz_186_22 rfl (fun u1 => ?_) (fun u1 => ?_)
      ·
        refine w_iload_n gz_186_47 rfl ?_
        refine w_ifge (t := 57) gz_186_48 rfl (fun u2 => ?_) (fun u2 => ?_)
        ·
          refine w_aload_n gz_186_57 rfl ?_
          refine w_dup gz_186_58 rfl ?_
          refine v_getI (j := 7) gz_186_59 rfl is_151 rd_10 rfl (fun v3 ev3 pv3 qv3 => ?_)
          refine w_iconst gz_186_62 (by decide) ?_
          refine w_iadd gz_186_63 ⟨by omega, by omega⟩ ?_
          have hi4 : 0 ≤ (v3 + 1) := by have q := Tok_at n_Tok_20_0; omega
          have hi5 : (v3 + 1) ≤ 1001 := by have q := Tok_at n_Tok_20_0; omega
          refine v_putI (j := 7) gz_186_64 rfl is_151 rd_10 rfl (by omega) (by omega) rfl (fun h6 fh6 => ?_)
          have gh6 : my_fr [(10, 7), (10, 8), (67, -1), (68, -1), (69, -1)] h h6 := my_fr.up gh_20_0 is_151 fh6 rfl
          have Mq_h6 : Mq h6 wv := Mq_ag (my_ag.up fh6 is_151 rfl) n_Mq_20_0
          have P6_h6 : h6 167 6 = h 167 6 := P6_ag (my_ag.up fh6 is_151 rfl) n_P6_20_0
          have Tok_h6t7 : Tok h6 := by first | exact Tok_inc n_Tok_20_0 (by subst_vars; omega) (by omega) fh6 | exact Tok_set n_Tok_20_0 (by omega) fh6 | omega
          have k7 := my_up_self fh6
          refine w_aload_n gz_186_67 rfl ?_
          refine w_getX (v := 168) gz_186_68 is_151 rd_10 rfl (by decide) rfl ?_
          refine w_iload_n gz_186_71 rfl ?_
          refine w_iload_n gz_186_72 rfl ?_
          refine w_iast gz_186_73 is_168 rd_67 (by omega) (by omega) (by omega) (by omega) (fun h9 fh9 => ?_)
          have gh9 : my_fr [(10, 7), (10, 8), (67, -1), (68, -1), (69, -1)] h h9 := my_fr.up gh6 is_168 fh9 rfl
          have Mq_h9 : Mq h9 wv := Mq_u (a := 168) hwv (by decide) (by omega) fh9 Mq_h6
          have P6_h9 : h9 167 6 = h 167 6 := P6_ag (my_ag.up fh9 is_168 rfl) P6_h6
          have Tok_h9 : Tok h9 := Tok_ag (my_ag.up fh9 is_168 rfl) Tok_h6t7
          have k168 : h9 168 x1 = p20_0 := my_up_self fh9
          have ce10 : h9 151 7 = (v3 + 1) := ((my_up_role fh9 is_151 is_168 rfl).trans (my_up_self fh6))
          refine w_aload_n gz_186_74 rfl ?_
          refine w_getX (v := 170) gz_186_75 is_151 rd_10 rfl (by decide) rfl ?_
          refine w_iload_n gz_186_78 rfl ?_
          refine w_aload_n gz_186_79 rfl ?_
          refine w_sipush gz_186_80 (by decide) ?_
          refine w_inv (k := 0) (as := [(0, 199)]) (r := [(0, x1), (2, 170)]) (x := 151) (ls0 := [(2, 151), (0, 199)]) gz_186_83 gm_187 rfl is_151 rd_10 rfl rfl rfl rfl rfl (c_Model_takeNumber2_fq (d := d)  Tok_h9 (fun h12 frh12 w13 w14 xp15 Tok_h12t16 => ?_) (fun h17 v18 frh17 w19 w20 w21 w22 w23 xp24 xp25 xp26 xp27 xp28 Tok_h17t29 => ?_))
          ·
            have gh12 : my_fr [(10, 7), (10, 8), (67, -1), (68, -1), (69, -1)] h h12 := my_fr.tr gh9 (frh12.mo rfl)
            have Mq_h12 : Mq h12 wv := Mq_ag (my_ag.fr frh12 rfl) Mq_h9
            have P6_h12 : h12 167 6 = h 167 6 := P6_ag (my_ag.fr frh12 rfl) P6_h9
            show wp l rho (d + 2) 186 86 [(2, 151), (0, x1), (0, p20_0), (0, p20_1)] [(0, 0), (0, x1), (2, 170)] h12 Q
            have hi30 : 0 ≤ 0 := by omega
            have hi31 : 0 ≤ 199 := by omega
            refine w_iast gz_186_86 is_170 rd_69 (by omega) (by omega) (by omega) (by omega) (fun h32 fh32 => ?_)
            have gh32 : my_fr [(10, 7), (10, 8), (67, -1), (68, -1), (69, -1)] h h32 := my_fr.up gh12 is_170 fh32 rfl
            have Mq_h32 : Mq h32 wv := Mq_u (a := 170) hwv (by decide) (by omega) fh32 Mq_h12
            have P6_h32 : h32 167 6 = h 167 6 := P6_ag (my_ag.up fh32 is_170 rfl) P6_h12
            have Tok_h32 : Tok h32 := Tok_ag (my_ag.up fh32 is_170 rfl) Tok_h12t16
            have ce33 : h32 151 7 = h12 151 7 := ((my_up_role fh32 is_151 is_170 rfl).trans (rfl : h12 151 7 = h12 151 7))
            have ce34 : h32 151 27 = k151_27 := ((my_up_role fh32 is_151 is_170 rfl).trans ((my_fr.at frh12 is_151 rfl).trans ((my_up_role fh9 is_151 is_168 rfl).trans ((my_up_fld fh6 (by decide)).trans c151_27_20_0))))
            have ce35 : h32 151 8 = (h12 151 8) := ((my_up_role fh32 is_151 is_170 rfl).trans (rfl : h12 151 8 = h12 151 8))
            have a168 : ∀ j : Int, h32 168 j = h9 168 j := fun j => ((my_up_role fh32 is_168 is_170 rfl).trans ((my_fr.at frh12 is_168 rfl).trans (rfl : h9 168 j = h9 168 j)))
            have a169 : ∀ j : Int, h32 169 j = h20_0 169 j := fun j => ((my_up_role fh32 is_169 is_170 rfl).trans ((my_fr.at frh12 is_169 rfl).trans ((my_up_role fh9 is_169 is_168 rfl).trans ((my_up_role fh6 is_169 is_151 rfl).trans (rfl : h20_0 169 j = h20_0 169 j)))))
            have c36 := ((my_up_role fh32 is_151 is_170 rfl).trans (rfl : h12 151 8 = h12 151 8))
            exact w_vret gz_186_87 gm_186 (k0 h32 (gh32) (by omega) (by omega) (by first | omega | (refine ⟨fun q => ?_, fun q => ?_⟩ <;> (rw [a168, k168] at q; omega)) | (refine ⟨fun q => ?_, fun q => ?_, fun q => ?_⟩ <;> first | (exfalso; rw [a168, k168] at q; omega) | (rw [a169]; have z := k9_20_0 (by omega); omega)) | omega) Tok_h32 Mq_h32)
          ·
            have gh17 : my_fr [(10, 7), (10, 8), (67, -1), (68, -1), (69, -1)] h h17 := my_fr.tr gh9 (frh17.mo rfl)
            have Mq_h17 : Mq h17 wv := Mq_ag (my_ag.fr frh17 rfl) Mq_h9
            have P6_h17 : h17 167 6 = h 167 6 := P6_ag (my_ag.fr frh17 rfl) P6_h9
            show wp l rho (d + 2) 186 86 [(2, 151), (0, x1), (0, p20_0), (0, p20_1)] [(0, v18), (0, x1), (2, 170)] h17 Q
            have hi37 : 0 ≤ v18 := by omega
            have hi38 : v18 ≤ 199 := by omega
            refine w_iast gz_186_86 is_170 rd_69 (by omega) (by omega) (by omega) (by omega) (fun h39 fh39 => ?_)
            have gh39 : my_fr [(10, 7), (10, 8), (67, -1), (68, -1), (69, -1)] h h39 := my_fr.up gh17 is_170 fh39 rfl
            have Mq_h39 : Mq h39 wv := Mq_u (a := 170) hwv (by decide) (by omega) fh39 Mq_h17
            have P6_h39 : h39 167 6 = h 167 6 := P6_ag (my_ag.up fh39 is_170 rfl) P6_h17
            have Tok_h39 : Tok h39 := Tok_ag (my_ag.up fh39 is_170 rfl) Tok_h17t29
            have ce40 : h39 151 7 = (h17 151 7) := ((my_up_role fh39 is_151 is_170 rfl).trans (rfl : h17 151 7 = h17 151 7))
            have ce41 : h39 151 27 = k151_27 := ((my_up_role fh39 is_151 is_170 rfl).trans ((my_fr.at frh17 is_151 rfl).trans ((my_up_role fh9 is_151 is_168 rfl).trans ((my_up_fld fh6 (by decide)).trans c151_27_20_0))))
            have ce42 : h39 151 8 = 0 := ((my_up_role fh39 is_151 is_170 rfl).trans w23)
            have a168 : ∀ j : Int, h39 168 j = h9 168 j := fun j => ((my_up_role fh39 is_168 is_170 rfl).trans ((my_fr.at frh17 is_168 rfl).trans (rfl : h9 168 j = h9 168 j)))
            have a169 : ∀ j : Int, h39 169 j = h20_0 169 j := fun j => ((my_up_role fh39 is_169 is_170 rfl).trans ((my_fr.at frh17 is_169 rfl).trans ((my_up_role fh9 is_169 is_168 rfl).trans ((my_up_role fh6 is_169 is_151 rfl).trans (rfl : h20_0 169 j = h20_0 169 j)))))
            have c43 := ((my_up_role fh39 is_151 is_170 rfl).trans (rfl : h17 151 7 = h17 151 7))
            have c44 := ((my_up_role fh39 is_151 is_170 rfl).trans w23)
            exact w_vret gz_186_87 gm_186 (k1 h39 (gh39) (by omega) (by omega) (by omega) (by first | omega | (refine ⟨fun q => ?_, fun q => ?_⟩ <;> (rw [a168, k168] at q; omega)) | (refine ⟨fun q => ?_, fun q => ?_, fun q => ?_⟩ <;> first | (exfalso; rw [a168, k168] at q; omega) | (rw [a169]; have z := k9_20_0 (by omega); omega)) | omega) (by first | omega | (refine ⟨fun q => ?_, fun q => ?_⟩ <;> (rw [a168, k168] at q; omega)) | (refine ⟨fun q => ?_, fun q => ?_, fun q => ?_⟩ <;> first | (exfalso; rw [a168, k168] at q; omega) | (rw [a169]; have z := k9_20_0 (by omega); omega)) | omega) (by first | omega | (refine ⟨fun q => ?_, fun q => ?_⟩ <;> (rw [a168, k168] at q; omega)) | (refine ⟨fun q => ?_, fun q => ?_, fun q => ?_⟩ <;> first | (exfalso; rw [a168, k168] at q; omega) | (rw [a169]; have z := k9_20_0 (by omega); omega)) | omega) Tok_h39 Mq_h39)
        ·
          refine w_aload_n gz_186_51 rfl ?_
          refine w_iconst gz_186_52 (by decide) ?_
          refine w_inv (k := 0) (as := [(0, 1)]) (r := []) (x := 151) (ls0 := [(2, 151), (0, 1)]) gz_186_53 gm_178 rfl is_151 rd_10 rfl rfl rfl rfl rfl ?_
          refine w_aload_n gz_178_0 rfl ?_
          refine v_getI (j := 8) gz_178_1 rfl is_151 rd_10 rfl (fun v45 ev45 pv45 qv45 => ?_)
          have zv45 := ev45.trans c151_8_20_0
          refine w_ifne (t := 25) gz_178_4 rfl (fun u46 => ?_) (fun u46 => ?_)
          ·
            refine w_vret gz_178_25 gm_178 ?_
            show wp l rho (d + 2) 186 56 [(2, 151), (0, x1), (0, p20_0), (0, p20_1)] [] h20_0 Q
            have ce47 : h20_0 151 27 = k151_27 := c151_27_20_0
            have ce48 : h20_0 151 8 = v45 := ev45.symm
            have a168 : ∀ j : Int, h20_0 168 j = h20_0 168 j := fun j => rfl
            have a169 : ∀ j : Int, h20_0 169 j = h20_0 169 j := fun _ => rfl
            have c49 := ev45.symm
            exact w_vret gz_186_56 gm_186 (k0 h20_0 (gh_20_0) (by omega) (by omega) (by first | omega | (refine ⟨fun q => ?_, fun q => ?_⟩ <;> (rw [a168, k168] at q; omega)) | (refine ⟨fun q => ?_, fun q => ?_, fun q => ?_⟩ <;> first | (exfalso; rw [a168, k168] at q; omega) | (rw [a169]; have z := k9_20_0 (by omega); omega)) | omega) n_Tok_20_0 n_Mq_20_0)
          ·
            refine w_aload_n gz_178_7 rfl ?_
            refine w_iload_n gz_178_8 rfl ?_
            refine w_bipush gz_178_9 (by decide) ?_
            refine w_aload_n gz_178_11 rfl ?_
            refine w_getX (v := 154) gz_178_12 is_151 rd_10 rfl (by decide) rfl ?_
            refine w_aload_n gz_178_15 rfl ?_
            refine v_getI (j := 7) gz_178_16 rfl is_151 rd_10 rfl (fun v51 ev51 pv51 qv51 => ?_)
            refine w_iald gz_178_19 is_154 rd_53 (by omega) (by omega) (fun v52 ev52 pv52 qv52 => ?_)
            refine w_imul gz_178_20 ⟨by omega, by omega⟩ ?_
            refine w_iadd gz_178_21 ⟨by omega, by omega⟩ ?_
            refine v_putI (j := 8) gz_178_22 rfl is_151 rd_10 rfl (by omega) (by omega) rfl (fun h53 fh53 => ?_)
            have gh53 : my_fr [(10, 7), (10, 8), (67, -1), (68, -1), (69, -1)] h h53 := my_fr.up gh_20_0 is_151 fh53 rfl
            have Tok_h53 : Tok h53 := Tok_ag (my_ag.up fh53 is_151 rfl) n_Tok_20_0
            have Mq_h53 : Mq h53 wv := Mq_ag (my_ag.up fh53 is_151 rfl) n_Mq_20_0
            have P6_h53 : h53 167 6 = h 167 6 := P6_ag (my_ag.up fh53 is_151 rfl) n_P6_20_0
            refine w_vret gz_178_25 gm_178 ?_
            show wp l rho (d + 2) 186 56 [(2, 151), (0, x1), (0, p20_0), (0, p20_1)] [] h53 Q
            have ce54 : h53 151 7 = v51 := ((my_up_fld fh53 (by decide)).trans ev51.symm)
            have ce55 : h53 151 27 = k151_27 := ((my_up_fld fh53 (by decide)).trans c151_27_20_0)
            have ce56 : h53 151 8 = (1 + (16 * v52)) := (my_up_self fh53)
            have a168 : ∀ j : Int, h53 168 j = h53 168 j := fun j => rfl
            have a169 : ∀ j : Int, h53 169 j = h20_0 169 j := fun j => ((my_up_role fh53 is_169 is_151 rfl).trans (rfl : h20_0 169 j = h20_0 169 j))
            have c57 := (my_up_self fh53)
            exact w_vret gz_186_56 gm_186 (k0 h53 (gh53) (by omega) (by omega) (by first | omega | (refine ⟨fun q => ?_, fun q => ?_⟩ <;> (rw [a168, k168] at q; omega)) | (refine ⟨fun q => ?_, fun q => ?_, fun q => ?_⟩ <;> first | (exfalso; rw [a168, k168] at q; omega) | (rw [a169]; have z := k9_20_0 (by omega); omega)) | omega) Tok_h53 Mq_h53)
      ·
        refine w_aload_n gz_186_25 rfl ?_
        refine w_iconst gz_186_26 (by decide) ?_
        refine w_iload_n gz_186_27 rfl ?_
        refine w_iadd gz_186_28 ⟨by omega, by omega⟩ ?_
        refine w_inv (k := 0) (as := [(0, (4 + p20_1))]) (r := []) (x := 151) (ls0 := [(2, 151), (0, (4 + p20_1))]) gz_186_29 gm_177 rfl is_151 rd_10 rfl rfl rfl rfl rfl (c_Model_isWord_fq (d := (d + 1)) (x1 := (4 + p20_1)) (by omega) (by omega) (fun w58 w59 => ?_) (fun w60 => ?_) (fun w61 xp62 xp63 xp64 => ?_))
        ·
          show wp l rho (d + 2) 186 32 [(2, 151), (0, x1), (0, p20_0), (0, p20_1)] [(0, 0)] h20_0 Q
          refine w_ifeq (t := 39) gz_186_32 rfl (fun u65 => ?_) (fun u65 => by exfalso; omega)
          refine w_iload_n gz_186_39 rfl ?_
          refine w_istore_n (ls' := [(2, 151), (0, x1), (0, p20_0), (0, p20_1)]) gz_186_40 gm_186 rfl rfl rfl ?_
          refine w_iinc (ls' := [(2, 151), (0, x1), (0, p20_0), (0, (p20_1 + 1))]) gz_186_41 rfl gm_186 rfl rfl rfl ⟨by omega, by omega⟩ ?_
          refine w_goto (t := 20) gz_186_44 rfl ?_
          have ce66 : h20_0 151 8 = p20_2 := c151_8_20_0
          have a153 : ∀ j : Int, h20_0 153 j = h20_0 153 j := fun _ => rfl
          have a169 : ∀ j : Int, h20_0 169 j = h20_0 169 j := fun _ => rfl
          exact ih_20_0 (p20_0) ((p20_1 + 1)) (p20_2) h20_0 (gh_20_0) (by omega) (by omega) (by omega) (by omega) (by omega) (by omega) (by omega) (c151_27_20_0.trans (by omega)) (c151_8_20_0.trans (by omega)) n_Tok_20_0 n_Mq_20_0 n_P6_20_0 (by first | omega | (intro q; rw [a153]; subst_vars; omega) | (subst_vars; omega) | (intro _; assumption) | omega) (by omega) (by first | (intro q; exfalso; omega) | (intro q; rw [a169, k169]; omega) | (intro q; rw [a169]; exact k9_20_0 (by omega)) | omega) (by omega)
        ·
          show wp l rho (d + 2) 186 32 [(2, 151), (0, x1), (0, p20_0), (0, p20_1)] [(0, 0)] h20_0 Q
          refine w_ifeq (t := 39) gz_186_32 rfl (fun u67 => ?_) (fun u67 => by exfalso; omega)
          refine w_iload_n gz_186_39 rfl ?_
          refine w_istore_n (ls' := [(2, 151), (0, x1), (0, p20_0), (0, p20_1)]) gz_186_40 gm_186 rfl rfl rfl ?_
          refine w_iinc (ls' := [(2, 151), (0, x1), (0, p20_0), (0, (p20_1 + 1))]) gz_186_41 rfl gm_186 rfl rfl rfl ⟨by omega, by omega⟩ ?_
          refine w_goto (t := 20) gz_186_44 rfl ?_
          have ce68 : h20_0 151 8 = p20_2 := c151_8_20_0
          have a153 : ∀ j : Int, h20_0 153 j = h20_0 153 j := fun _ => rfl
          have a169 : ∀ j : Int, h20_0 169 j = h20_0 169 j := fun _ => rfl
          exact ih_20_0 (p20_0) ((p20_1 + 1)) (p20_2) h20_0 (gh_20_0) (by omega) (by omega) (by omega) (by omega) (by omega) (by omega) (by omega) (c151_27_20_0.trans (by omega)) (c151_8_20_0.trans (by omega)) n_Tok_20_0 n_Mq_20_0 n_P6_20_0 (by first | omega | (intro q; rw [a153]; subst_vars; omega) | (subst_vars; omega) | (intro _; assumption) | omega) (by omega) (by first | (intro q; exfalso; omega) | (intro q; rw [a169, k169]; omega) | (intro q; rw [a169]; exact k9_20_0 (by omega)) | omega) (by omega)
        ·
          show wp l rho (d + 2) 186 32 [(2, 151), (0, x1), (0, p20_0), (0, p20_1)] [(0, 1)] h20_0 Q
          refine w_ifeq (t := 39) gz_186_32 rfl (fun u69 => by exfalso; omega) (fun u69 => ?_)
          refine w_iload_n gz_186_35 rfl ?_
          refine w_goto (t := 40) gz_186_36 rfl ?_
          refine w_istore_n (ls' := [(2, 151), (0, x1), (0, p20_1), (0, p20_1)]) gz_186_40 gm_186 rfl rfl rfl ?_
          refine w_iinc (ls' := [(2, 151), (0, x1), (0, p20_1), (0, (p20_1 + 1))]) gz_186_41 rfl gm_186 rfl rfl rfl ⟨by omega, by omega⟩ ?_
          refine w_goto (t := 20) gz_186_44 rfl ?_
          have ce70 : h20_0 151 8 = p20_2 := c151_8_20_0
          have a153 : ∀ j : Int, h20_0 153 j = h20_0 153 j := fun _ => rfl
          have a169 : ∀ j : Int, h20_0 169 j = h20_0 169 j := fun _ => rfl
          exact ih_20_0 (p20_1) ((p20_1 + 1)) (p20_2) h20_0 (gh_20_0) (by omega) (by omega) (by omega) (by omega) (by omega) (by omega) (by omega) (c151_27_20_0.trans (by omega)) (c151_8_20_0.trans (by omega)) n_Tok_20_0 n_Mq_20_0 n_P6_20_0 (by first | omega | (intro q; rw [a153]; subst_vars; omega) | (subst_vars; omega) | (intro _; assumption) | omega) (by omega) (by first | (intro q; exfalso; omega) | (intro q; rw [a169, k169]; omega) | (intro q; rw [a169]; exact k9_20_0 (by omega)) | omega) (by omega)
  refine w_aload_n gz_186_0 rfl ?_
  refine w_getX (v := 169) gz_186_1 is_151 rd_10 rfl (by decide) rfl ?_
  refine w_iload_n gz_186_4 rfl ?_
  refine w_aload_n gz_186_5 rfl ?_
  refine w_aload_n gz_186_6 rfl ?_
  refine v_getI (j := 27) gz_186_7 rfl is_151 rd_10 rfl (fun v72 ev72 pv72 qv72 => ?_)
  have zv72 := ev72.trans ek151_27.symm
  refine w_iconst gz_186_10 (by decide) ?_
  refine w_isub gz_186_11 ⟨by omega, by omega⟩ ?_
  refine w_inv (k := 0) (as := [(0, (v72 - 1))]) (r := [(0, x1), (2, 169)]) (x := 151) (ls0 := [(2, 151), (0, (v72 - 1))]) gz_186_12 gm_187 rfl is_151 rd_10 rfl rfl rfl rfl rfl (c_Model_takeNumber2_f0 (d := d) (x1 := (v72 - 1)) (by omega) (by omega) (cf.trans (by omega)) n_Tok (fun h73 frh73 w74 w75 xp76 Tok_h73t77 => ?_) (fun h78 v79 frh78 w80 w81 w82 w83 w84 xp85 xp86 xp87 xp88 xp89 Tok_h78t90 => ?_))
  ·
    have gh73 : my_fr [(10, 7), (10, 8), (67, -1), (68, -1), (69, -1)] h h73 := my_fr.tr my_fr.rf (frh73.mo rfl)
    have Mq_h73 : Mq h73 wv := Mq_ag (my_ag.fr frh73 rfl) n_Mq
    have P6_h73 : h73 167 6 = h 167 6 := P6_ag (my_ag.fr frh73 rfl) (rfl)
    show wp l rho (d + 2) 186 15 [(2, 151), (0, x1), (9, 0), (9, 0)] [(0, 0), (0, x1), (2, 169)] h73 Q
    have hi91 : 0 ≤ 0 := by omega
    have hi92 : 0 ≤ 7 := by omega
    refine w_iast gz_186_15 is_169 rd_68 (by omega) (by omega) (by omega) (by omega) (fun h93 fh93 => ?_)
    have gh93 : my_fr [(10, 7), (10, 8), (67, -1), (68, -1), (69, -1)] h h93 := my_fr.up gh73 is_169 fh93 rfl
    have Mq_h93 : Mq h93 wv := Mq_u (a := 169) hwv (by decide) (by omega) fh93 Mq_h73
    have P6_h93 : h93 167 6 = h 167 6 := P6_ag (my_ag.up fh93 is_169 rfl) P6_h73
    have Tok_h93 : Tok h93 := Tok_ag (my_ag.up fh93 is_169 rfl) Tok_h73t77
    have k169 := my_up_self fh93
    refine w_iconst gz_186_16 (by decide) ?_
    refine w_istore_n (ls' := [(2, 151), (0, x1), (0, (-1)), (9, 0)]) gz_186_17 gm_186 rfl rfl rfl ?_
    refine w_iconst gz_186_18 (by decide) ?_
    refine w_istore_n (ls' := [(2, 151), (0, x1), (0, (-1)), (0, 0)]) gz_186_19 gm_186 rfl rfl rfl ?_
    have ce94 : h93 151 7 = h73 151 7 := ((my_up_role fh93 is_151 is_169 rfl).trans (rfl : h73 151 7 = h73 151 7))
    have ce95 : h93 151 8 = (h73 151 8) := ((my_up_role fh93 is_151 is_169 rfl).trans (rfl : h73 151 8 = h73 151 8))
    have a153 : ∀ j : Int, h93 153 j = h 153 j := fun j => ((my_up_role fh93 is_153 is_169 rfl).trans ((my_fr.at frh73 is_153 rfl).trans (rfl : h 153 j = h 153 j)))
    have a169 : ∀ j : Int, h93 169 j = h93 169 j := fun j => rfl
    exact J20_0 4 ((-1)) (0) ((h73 151 8)) h93 (gh93) (by omega) (by omega) (by omega) (by omega) (by omega) (by omega) (by omega) (((my_up_role fh93 is_151 is_169 rfl).trans ((my_fr.at frh73 is_151 rfl).trans ev72.symm)).trans (by omega)) (((my_up_role fh93 is_151 is_169 rfl).trans (rfl : h73 151 8 = h73 151 8)).trans (by omega)) Tok_h93 Mq_h93 P6_h93 (by first | omega | (intro q; rw [a153]; subst_vars; omega) | (subst_vars; omega) | (intro _; assumption) | omega) (by omega) (by first | (intro q; exfalso; omega) | (intro q; rw [a169, k169]; omega) | (intro q; rw [a169]; exact k9_20_0 (by omega)) | omega) (by omega)
  ·
    have gh78 : my_fr [(10, 7), (10, 8), (67, -1), (68, -1), (69, -1)] h h78 := my_fr.tr my_fr.rf (frh78.mo rfl)
    have Mq_h78 : Mq h78 wv := Mq_ag (my_ag.fr frh78 rfl) n_Mq
    have P6_h78 : h78 167 6 = h 167 6 := P6_ag (my_ag.fr frh78 rfl) (rfl)
    show wp l rho (d + 2) 186 15 [(2, 151), (0, x1), (9, 0), (9, 0)] [(0, v79), (0, x1), (2, 169)] h78 Q
    have hi96 : 0 ≤ v79 := by omega
    have hi97 : v79 ≤ 7 := by omega
    refine w_iast gz_186_15 is_169 rd_68 (by omega) (by omega) (by omega) (by omega) (fun h98 fh98 => ?_)
    have gh98 : my_fr [(10, 7), (10, 8), (67, -1), (68, -1), (69, -1)] h h98 := my_fr.up gh78 is_169 fh98 rfl
    have Mq_h98 : Mq h98 wv := Mq_u (a := 169) hwv (by decide) (by omega) fh98 Mq_h78
    have P6_h98 : h98 167 6 = h 167 6 := P6_ag (my_ag.up fh98 is_169 rfl) P6_h78
    have Tok_h98 : Tok h98 := Tok_ag (my_ag.up fh98 is_169 rfl) Tok_h78t90
    have k169 := my_up_self fh98
    refine w_iconst gz_186_16 (by decide) ?_
    refine w_istore_n (ls' := [(2, 151), (0, x1), (0, (-1)), (9, 0)]) gz_186_17 gm_186 rfl rfl rfl ?_
    refine w_iconst gz_186_18 (by decide) ?_
    refine w_istore_n (ls' := [(2, 151), (0, x1), (0, (-1)), (0, 0)]) gz_186_19 gm_186 rfl rfl rfl ?_
    have ce99 : h98 151 7 = (h78 151 7) := ((my_up_role fh98 is_151 is_169 rfl).trans (rfl : h78 151 7 = h78 151 7))
    have ce100 : h98 151 8 = 0 := ((my_up_role fh98 is_151 is_169 rfl).trans w84)
    have a153 : ∀ j : Int, h98 153 j = h 153 j := fun j => ((my_up_role fh98 is_153 is_169 rfl).trans ((my_fr.at frh78 is_153 rfl).trans (rfl : h 153 j = h 153 j)))
    have a169 : ∀ j : Int, h98 169 j = h98 169 j := fun j => rfl
    exact J20_0 4 ((-1)) (0) (0) h98 (gh98) (by omega) (by omega) (by omega) (by omega) (by omega) (by omega) (by omega) (((my_up_role fh98 is_151 is_169 rfl).trans ((my_fr.at frh78 is_151 rfl).trans ev72.symm)).trans (by omega)) (((my_up_role fh98 is_151 is_169 rfl).trans w84).trans (by omega)) Tok_h98 Mq_h98 P6_h98 (by first | omega | (intro q; rw [a153]; subst_vars; omega) | (subst_vars; omega) | (intro _; assumption) | omega) (by omega) (by first | (intro q; exfalso; omega) | (intro q; rw [a169, k169]; omega) | (intro q; rw [a169]; exact k9_20_0 (by omega)) | omega) (by omega)
end MYNModel_isWord_f1
