/-! contracts, printed by wip/gen/gy.py -/
section MYNModel_wallsUnder5
theorem c_Model_wallsUnder5 {l : Launch} {rho : Nat → Int32} {d : Nat} {h : my_H} {Q : my_H → my_V → Prop} {x1 : Int} (a1 : 0 ≤ x1) (b1 : x1 ≤ 5) (n_Mw : Mw h) (hfp : Fp h x1) (hlm : LmW h) (k0 : ∀ (h' : my_H) (y : Int), my_fr [(10, 32), (10, 33), (76, -1)] h h' → UwB y (mBs h x1) (mCW h x1) → Q h' (0, y)) : wp l rho (d + 1) 205 0 [(2, 151), (0, x1), (9, 0), (9, 0), (9, 0), (9, 0)] [] h Q := by
  obtain ⟨W, hW⟩ := id n_Mw
  refine v_knowA (x := 167) pis_167 rd_66 (fun kP => ?_)
  have tx : h 164 x1 = 1 := hfp.1 (by omega)
  have lm0 := hlm _ a1 b1 tx
  have J14_0 : ∀ (n : Nat) (p14_0 p14_1 p14_2 : Int) (h14_0 : my_H), my_fr [(10, 32), (10, 33), (76, -1)] h h14_0 → 0 ≤ p14_1 → p14_1 ≤ 6 → 0 ≤ p14_2 → p14_2 ≤ 2 → h14_0 151 33 = p14_2 → Mw h14_0 → Fc h h14_0 (h14_0 151 32) (-1) x1 → 1 ≤ h14_0 151 32 ∧ h14_0 151 32 ≤ 6 → p14_1 ≤ h14_0 151 32 → h14_0 151 33 = mBs h x1 → (p14_1 < h14_0 151 32 → UwB p14_0 (mBs h x1) (mUn h (h14_0 177 p14_1))) → (p14_1 = h14_0 151 32 → UwB p14_0 (mBs h x1) (mCW h x1)) → 7 - p14_1 ≤ (n : Int) → wp l rho (d + 1) 205 14 [(2, 151), (0, x1), (0, p14_0), (0, p14_1), (9, 0), (9, 0)] [] h14_0 Q := by
    intro n
    induction n with
    | zero => intro p14_0 p14_1 p14_2 h14_0 gh_14_0 q0_14_0 q1_14_0 q2_14_0 q3_14_0 c151_33_14_0 n_Mw_14_0 fc_14_0 cb_14_0 lb_14_0 b3_14_0 vk_14_0 ve_14_0 hm_14_0; exfalso; omega
    | succ n ih_14_0 =>
      intro p14_0 p14_1 p14_2 h14_0 gh_14_0 q0_14_0 q1_14_0 q2_14_0 q3_14_0 c151_33_14_0 n_Mw_14_0 fc_14_0 cb_14_0 lb_14_0 b3_14_0 vk_14_0 ve_14_0 hm_14_0
      have J25_0 : ∀ (n : Nat) (p25_0 p25_1 p25_2 : Int) (h25_0 : my_H), my_fr [(10, 32), (10, 33), (76, -1)] h h25_0 → p14_1 ≤ 5 → 0 ≤ p25_1 → p25_1 ≤ 6 → 1 ≤ p25_2 → p25_2 ≤ 6 → p14_1 ≤ (p25_2 - 1) → h25_0 151 32 = p25_2 → h25_0 151 33 = p14_2 → Mw h25_0 → Fc h h25_0 (h25_0 151 32) (-1) x1 → 1 ≤ h25_0 151 32 ∧ h25_0 151 32 ≤ 6 → p14_1 < h25_0 151 32 → h25_0 151 33 = mBs h x1 → p25_1 ≤ h 167 (h25_0 177 p14_1) → UwB p25_0 (mBs h x1) (mPs h (h25_0 177 p14_1) (p25_1).toNat ++ mUn h (h25_0 177 p14_1)) → 7 - p25_1 ≤ (n : Int) → wp l rho (d + 1) 205 25 [(2, 151), (0, x1), (0, p25_0), (0, p14_1), (0, p25_1), (9, 0)] [] h25_0 Q := by
        intro n
        induction n with
        | zero => intro p25_0 p25_1 p25_2 h25_0 gh_25_0 q0_25_0 q1_25_0 q2_25_0 q3_25_0 q4_25_0 q5_25_0 c151_32_25_0 c151_33_25_0 n_Mw_25_0 fc_25_0 cb_25_0 lk_25_0 b3_25_0 l4_25_0 vp_25_0 hm_25_0; exfalso; omega
        | succ n ih_25_0 =>
          intro p25_0 p25_1 p25_2 h25_0 gh_25_0 q0_25_0 q1_25_0 q2_25_0 q3_25_0 q4_25_0 q5_25_0 c151_32_25_0 c151_33_25_0 n_Mw_25_0 fc_25_0 cb_25_0 lk_25_0 b3_25_0 l4_25_0 vp_25_0 hm_25_0
          have tq := Fc_told (by omega) tx (by omega) fc_25_0 (by omega : 0 ≤ p14_1) lk_25_0
          refine w_iload gz_205_25 rfl ?_
          refine w_aload_n gz_205_27 rfl ?_
          refine w_getX (v := 167) gz_205_28 is_151 rd_10 rfl (by decide) rfl ?_
          refine w_aload_n gz_205_31 rfl ?_
          refine w_getX (v := 177) gz_205_32 is_151 rd_10 rfl (by decide) rfl ?_
          refine w_iload_n gz_205_35 rfl ?_
          refine w_iald gz_205_36 is_177 rd_76 (by omega) (by omega) (fun v3 ev3 pv3 qv3 => ?_)
          refine w_iald gz_205_37 is_167 rd_66 (by omega) (by omega) (fun v4 ev4 pv4 qv4 => ?_)
          have pn : v4 = h 167 (h25_0 177 p14_1) := by
            have q : h25_0 167 (h25_0 177 p14_1) = h 167 (h25_0 177 p14_1) := my_fr.at gh_25_0 pis_167 rfl
            rw [← q]
            subst_vars
            rfl
          refine w_icge (t := 88) gz_205_38 rfl (fun u5 => ?_) (fun u5 => ?_)
          ·
            refine w_iinc (ls' := [(2, 151), (0, x1), (0, p25_0), (0, (p14_1 + 1)), (0, p25_1), (9, 0)]) gz_205_88 rfl gm_205 rfl rfl rfl ⟨by omega, by omega⟩ ?_
            refine w_goto (t := 14) gz_205_91 rfl ?_
            refine w_weak (ls' := [(2, 151), (0, x1), (0, p25_0), (0, (p14_1 + 1)), (9, 0), (9, 0)]) (wk_e (wk_e (wk_e (wk_e (wk_9 (wk_9 wk_n)))))) ?_
            exact ih_14_0 (p25_0) ((p14_1 + 1)) (p14_2) h25_0 (gh_25_0) (by omega) (by omega) (by omega) (by omega) (c151_33_25_0.trans (by omega)) n_Mw_25_0 (by first | exact fc0 | exact fc_14_0 | exact fc_25_0 | assumption | omega) (by omega) (by omega) (by first | exact fb0 | exact b3_14_0 | exact b3_25_0 | assumption | omega) (by first | (intro _; rw [Fc_bot fc0 (by omega)]; exact ub0) | (intro q; rw [Fc_un fc_25_0 (by omega) (by omega), (mCW_eq hW tq.1 tq.2.1 tq.2.2).1]; have z := vp_25_0; rw [show (p25_1).toNat = (h 167 (h25_0 177 p14_1)).toNat by omega] at z; exact z) | assumption | omega) (by first | (intro z; exfalso; omega) | (intro q; have e2 : h25_0 177 p14_1 = x1 := (by have e := fc_25_0.2.2.2.1 (by omega); rw [show h25_0 151 32 - 1 = p14_1 by omega] at e; exact e); have z := vp_25_0; rw [show (p25_1).toNat = (h 167 (h25_0 177 p14_1)).toNat by omega, ← (mCW_eq hW tq.1 tq.2.1 tq.2.2).1, e2] at z; exact z) | assumption | omega) (by omega)
          ·
            refine w_bipush gz_205_41 (by decide) ?_
            refine w_aload_n gz_205_43 rfl ?_
            refine w_getX (v := 177) gz_205_44 is_151 rd_10 rfl (by decide) rfl ?_
            refine w_iload_n gz_205_47 rfl ?_
            refine w_iald gz_205_48 is_177 rd_76 (by omega) (by omega) (fun v7 ev7 pv7 qv7 => ?_)
            have zv7 := ev7.trans ev3.symm
            refine w_imul gz_205_49 ⟨by omega, by omega⟩ ?_
            refine w_iload gz_205_50 rfl ?_
            refine w_iadd gz_205_52 ⟨by omega, by omega⟩ ?_
            refine w_istore (ls' := [(2, 151), (0, x1), (0, p25_0), (0, p14_1), (0, p25_1), (0, ((6 * v7) + p25_1))]) gz_205_53 gm_205 rfl rfl rfl ?_
            refine w_iload_n gz_205_55 rfl ?_
            refine w_aload_n gz_205_56 rfl ?_
            refine w_getX (v := 168) gz_205_57 is_151 rd_10 rfl (by decide) rfl ?_
            refine w_iload gz_205_60 rfl ?_
            refine w_iald gz_205_62 is_168 rd_67 (by omega) (by omega) (fun v9 ev9 pv9 qv9 => ?_)
            have i5 : ((6 * v7) + p25_1) = 6 * (h25_0 177 p14_1) + p25_1 := by omega
            have k68 : v9 = h 168 (6 * (h25_0 177 p14_1) + p25_1) := by
              have q : h25_0 168 (6 * (h25_0 177 p14_1) + p25_1) = h 168 (6 * (h25_0 177 p14_1) + p25_1) := my_fr.at gh_25_0 pis_168 rfl
              rw [← q, ← i5]
              omega
            refine w_iconst gz_205_63 (by decide) ?_
            refine w_icne (t := 79) gz_205_64 rfl (fun u10 => ?_) (fun u10 => ?_)
            ·
              refine w_iconst gz_205_79 (by decide) ?_
              refine w_iorX gz_205_80 (fun v11 ev11 pv11 qv11 => ?_)
              have bo8 := ev11
              have vq : UwB v11 (mBs h x1) (mPs h (h25_0 177 p14_1) (p25_1 + 1).toNat ++ mUn h (h25_0 177 p14_1)) := by
                rw [mPs_s (by omega)]
                first
                | exact UwB_j vp_25_0 (by omega) k70 (by omega) (by omega) bs8 bo8
                | exact UwB_n vp_25_0 (by omega) rfl bo8
              refine w_istore_n (ls' := [(2, 151), (0, x1), (0, v11), (0, p14_1), (0, p25_1), (0, ((6 * v7) + p25_1))]) gz_205_81 gm_205 rfl rfl rfl ?_
              refine w_iinc (ls' := [(2, 151), (0, x1), (0, v11), (0, p14_1), (0, (p25_1 + 1)), (0, ((6 * v7) + p25_1))]) gz_205_82 rfl gm_205 rfl rfl rfl ⟨by omega, by omega⟩ ?_
              refine w_goto (t := 25) gz_205_85 rfl ?_
              refine w_weak (ls' := [(2, 151), (0, x1), (0, v11), (0, p14_1), (0, (p25_1 + 1)), (9, 0)]) (wk_e (wk_e (wk_e (wk_e (wk_e (wk_9 wk_n)))))) ?_
              exact ih_25_0 (v11) ((p25_1 + 1)) (p25_2) h25_0 (gh_25_0) (by omega) (by omega) (by omega) (by omega) (by omega) (by omega) (c151_32_25_0.trans (by omega)) (c151_33_25_0.trans (by omega)) n_Mw_25_0 (by first | exact fc0 | exact fc_14_0 | exact fc_25_0 | assumption | omega) (by omega) (by omega) (by first | exact fb0 | exact b3_14_0 | exact b3_25_0 | assumption | omega) (by first | exact (by have r := Fc_told (by omega) tx (by omega) fc_14_0 (by omega : 0 ≤ p14_1) (by omega); have q := kP (h25_0 177 p14_1) r.1 (by omega); omega) | assumption | omega) (by first | exact vk_14_0 (by omega) | exact vq | assumption | omega) (by omega)
            ·
              refine w_iconst gz_205_67 (by decide) ?_
              refine w_aload_n gz_205_68 rfl ?_
              refine w_getX (v := 170) gz_205_69 is_151 rd_10 rfl (by decide) rfl ?_
              refine w_iload gz_205_72 rfl ?_
              refine w_iald gz_205_74 is_170 rd_69 (by omega) (by omega) (fun v13 ev13 pv13 qv13 => ?_)
              have j70 := Lm_join hW hlm tq.1 tq.2.1 tq.2.2 (by omega : 0 ≤ p25_1) (by omega) (k68.symm.trans (by omega))
              have k70 : h 170 (6 * (h25_0 177 p14_1) + p25_1) = v13 := by
                have q : h25_0 170 (6 * (h25_0 177 p14_1) + p25_1) = h 170 (6 * (h25_0 177 p14_1) + p25_1) := my_fr.at gh_25_0 pis_170 rfl
                rw [← q, ← i5]
                omega
              refine w_ishlX gz_205_75 (fun v14 ev14 pv14 qv14 => ?_)
              have bs8 := ev14
              have e81 := bs8
              refine w_goto (t := 80) gz_205_76 rfl ?_
              refine w_iorX gz_205_80 (fun v15 ev15 pv15 qv15 => ?_)
              have bo8 := ev15
              have vq : UwB v15 (mBs h x1) (mPs h (h25_0 177 p14_1) (p25_1 + 1).toNat ++ mUn h (h25_0 177 p14_1)) := by
                rw [mPs_s (by omega)]
                first
                | exact UwB_j vp_25_0 (by omega) k70 (by omega) (by omega) bs8 bo8
                | exact UwB_n vp_25_0 (by omega) rfl bo8
              refine w_istore_n (ls' := [(2, 151), (0, x1), (0, v15), (0, p14_1), (0, p25_1), (0, ((6 * v7) + p25_1))]) gz_205_81 gm_205 rfl rfl rfl ?_
              refine w_iinc (ls' := [(2, 151), (0, x1), (0, v15), (0, p14_1), (0, (p25_1 + 1)), (0, ((6 * v7) + p25_1))]) gz_205_82 rfl gm_205 rfl rfl rfl ⟨by omega, by omega⟩ ?_
              refine w_goto (t := 25) gz_205_85 rfl ?_
              refine w_weak (ls' := [(2, 151), (0, x1), (0, v15), (0, p14_1), (0, (p25_1 + 1)), (9, 0)]) (wk_e (wk_e (wk_e (wk_e (wk_e (wk_9 wk_n)))))) ?_
              exact ih_25_0 (v15) ((p25_1 + 1)) (p25_2) h25_0 (gh_25_0) (by omega) (by omega) (by omega) (by omega) (by omega) (by omega) (c151_32_25_0.trans (by omega)) (c151_33_25_0.trans (by omega)) n_Mw_25_0 (by first | exact fc0 | exact fc_14_0 | exact fc_25_0 | assumption | omega) (by omega) (by omega) (by first | exact fb0 | exact b3_14_0 | exact b3_25_0 | assumption | omega) (by first | exact (by have r := Fc_told (by omega) tx (by omega) fc_14_0 (by omega : 0 ≤ p14_1) (by omega); have q := kP (h25_0 177 p14_1) r.1 (by omega); omega) | assumption | omega) (by first | exact vk_14_0 (by omega) | exact vq | assumption | omega) (by omega)
      refine w_iload_n gz_205_14 rfl ?_
      refine w_aload_n gz_205_15 rfl ?_
      refine v_getI (j := 32) gz_205_16 rfl is_151 rd_10 rfl (fun v16 ev16 pv16 qv16 => ?_)
      refine w_icge (t := 94) gz_205_19 rfl (fun u17 => ?_) (fun u17 => ?_)
      ·
        refine w_iload_n gz_205_94 rfl ?_
        exact w_iret gz_205_95 gm_205 (k0 h14_0 (p14_0) (gh_14_0) (by first | exact ve_14_0 (by omega) | assumption | omega))
      ·
        refine w_iconst gz_205_22 (by decide) ?_
        refine w_istore (ls' := [(2, 151), (0, x1), (0, p14_0), (0, p14_1), (0, 0), (9, 0)]) gz_205_23 gm_205 rfl rfl rfl ?_
        exact J25_0 7 (p14_0) (0) (v16) h14_0 (gh_14_0) (by omega) (by omega) (by omega) (by omega) (by omega) (by omega) (ev16.symm.trans (by omega)) (c151_33_14_0.trans (by omega)) n_Mw_14_0 (by first | exact fc0 | exact fc_14_0 | exact fc_25_0 | assumption | omega) (by omega) (by omega) (by first | exact fb0 | exact b3_14_0 | exact b3_25_0 | assumption | omega) (by first | exact (by have r := Fc_told (by omega) tx (by omega) fc_14_0 (by omega : 0 ≤ p14_1) (by omega); have q := kP (h14_0 177 p14_1) r.1 (by omega); omega) | assumption | omega) (by first | exact vk_14_0 (by omega) | exact vq | assumption | omega) (by omega)
  refine w_aload_n gz_205_0 rfl ?_
  refine w_iload_n gz_205_1 rfl ?_
  refine w_inv (k := 2) (as := [(0, x1)]) (r := []) (x := 151) (ls0 := [(2, 151), (0, x1), (9, 0), (9, 0)]) gz_205_2 gm_180 rfl is_151 rd_10 rfl rfl rfl rfl rfl (c_Model_findChain (d := d) (x1 := x1) (by omega) (by omega) n_Mw (by first | assumption | exact no_such_saying | exact Fp_told (by omega) (by omega) | omega | (subst_vars; omega) | omega) (fun h18 frh18 xp19 xp20 xp21 => ?_))
  have gh18 : my_fr [(10, 32), (10, 33), (76, -1)] h h18 := my_fr.tr my_fr.rf (frh18.mo rfl)
  have Mw_h18 : Mw h18 := Mw_ag (my_ag.fr frh18 rfl) n_Mw
  show wp l rho (d + 1) 205 5 [(2, 151), (0, x1), (9, 0), (9, 0), (9, 0), (9, 0)] [] h18 Q
  have fc0 := xp19
  have fb0 := Fc_bs hW a1 b1 tx xp19 (by omega)
  refine w_iconst gz_205_5 (by decide) ?_
  refine w_aload_n gz_205_6 rfl ?_
  refine v_getI (j := 33) gz_205_7 rfl is_151 rd_10 rfl (fun v22 ev22 pv22 qv22 => ?_)
  refine w_ishlX gz_205_10 (fun v23 ev23 pv23 qv23 => ?_)
  have ub0 : UwB v23 (mBs h x1) [] := UwB_0 lm0.2.1 lm0.2.2.1 (by assumption) (by omega)
  refine w_istore_n (ls' := [(2, 151), (0, x1), (0, v23), (9, 0), (9, 0), (9, 0)]) gz_205_11 gm_205 rfl rfl rfl ?_
  refine w_iconst gz_205_12 (by decide) ?_
  refine w_istore_n (ls' := [(2, 151), (0, x1), (0, v23), (0, 0), (9, 0), (9, 0)]) gz_205_13 gm_205 rfl rfl rfl ?_
  exact J14_0 7 (v23) (0) (v22) h18 (gh18) (by omega) (by omega) (by omega) (by omega) (ev22.symm.trans (by omega)) Mw_h18 (by first | exact fc0 | exact fc_14_0 | exact fc_25_0 | assumption | omega) (by omega) (by omega) (by first | exact fb0 | exact b3_14_0 | exact b3_25_0 | assumption | omega) (by first | (intro _; rw [Fc_bot fc0 (by omega)]; exact ub0) | (intro q; rw [Fc_un fc_25_0 (by omega) (by omega), (mCW_eq hW tq.1 tq.2.1 tq.2.2).1]; have z := vp_25_0; rw [show (0).toNat = (h 167 (h18 177 p14_1)).toNat by omega] at z; exact z) | assumption | omega) (by first | (intro z; exfalso; omega) | (intro q; have e2 : h18 177 p14_1 = x1 := (by have e := fc_25_0.2.2.2.1 (by omega); rw [show h18 151 32 - 1 = p14_1 by omega] at e; exact e); have z := vp_25_0; rw [show (0).toNat = (h 167 (h18 177 p14_1)).toNat by omega, ← (mCW_eq hW tq.1 tq.2.1 tq.2.2).1, e2] at z; exact z) | assumption | omega) (by omega)
theorem c_Model_finds5 {l : Launch} {rho : Nat → Int32} {d : Nat} {h : my_H} {Q : my_H → my_V → Prop} {x1 x2 x3 x4 x5 : Int} (a1 : 0 ≤ x1) (b1 : x1 ≤ 3) (a2 : (-1) ≤ x2) (b2 : x2 ≤ 2) (a3 : (-1) ≤ x3) (b3 : x3 ≤ 19) (a4 : (-1) ≤ x4) (b4 : x4 ≤ 3) (a5 : (-1) ≤ x5) (b5 : x5 ≤ 19) (n_Wys : Wys h) (hw : h 151 48 ≤ 1799) (k1 : x1 = 1 → 0 ≤ x2 ∧ 0 ≤ x3 ∧ 0 ≤ x4 ∧ 0 ≤ x5) (k2 : 2 ≤ x1 → 0 ≤ x2 ∧ 0 ≤ x3) (k0 : ∀ (h' : my_H), my_fr [(10, 48), (89, -1), (90, -1), (91, -1), (92, -1), (93, -1)] h h' → 1 ≤ h' 151 48 → h' 151 48 ≤ 1800 → h' 151 48 = h 151 48 + 1 → WyL h' = (x1, x2, x3, x4, x5) :: WyL h → Wys h' → Q h' (9, 0)) : wp l rho d 214 0 [(2, 151), (0, x1), (0, x2), (0, x3), (0, x4), (0, x5)] [] h Q := by
  refine v_know (x := 151) (j := 48) (b := 48) rfl is_151 rd_10 rfl (fun k151_48 ek151_48 pk151_48 qk151_48 => ?_)
  refine w_aload_n gz_214_0 rfl ?_
  refine w_getX (v := 190) gz_214_1 is_151 rd_10 rfl (by decide) rfl ?_
  refine w_aload_n gz_214_4 rfl ?_
  refine v_getI (j := 48) gz_214_5 rfl is_151 rd_10 rfl (fun v2 ev2 pv2 qv2 => ?_)
  have zv2 := ev2.trans ek151_48.symm
  refine w_iload_n gz_214_8 rfl ?_
  have i9 : v2 = k151_48 := by omega
  have hi3 : 0 ≤ v2 := by omega
  have hi4 : v2 ≤ 1799 := by omega
  refine w_iast gz_214_9 is_190 rd_89 (by omega) (by omega) (by omega) (by omega) (fun h5 fh5 => ?_)
  have gh5 : my_fr [(10, 48), (89, -1), (90, -1), (91, -1), (92, -1), (93, -1)] h h5 := my_fr.up my_fr.rf is_190 fh5 rfl
  have f9 := fh5
  rw [i9] at f9
  refine w_aload_n gz_214_10 rfl ?_
  refine w_getX (v := 191) gz_214_11 is_151 rd_10 rfl (by decide) rfl ?_
  refine w_aload_n gz_214_14 rfl ?_
  refine v_getI (j := 48) gz_214_15 rfl is_151 rd_10 rfl (fun v7 ev7 pv7 qv7 => ?_)
  have zv7 := ev7.trans ((my_up_role fh5 is_151 is_190 rfl).trans ev2.symm)
  refine w_iload_n gz_214_18 rfl ?_
  have i19 : v7 = k151_48 := by omega
  have hi8 : 0 ≤ v7 := by omega
  have hi9 : v7 ≤ 1799 := by omega
  refine w_iast gz_214_19 is_191 rd_90 (by omega) (by omega) (by omega) (by omega) (fun h10 fh10 => ?_)
  have gh10 : my_fr [(10, 48), (89, -1), (90, -1), (91, -1), (92, -1), (93, -1)] h h10 := my_fr.up gh5 is_191 fh10 rfl
  have f19 := fh10
  rw [i19] at f19
  refine w_aload_n gz_214_20 rfl ?_
  refine w_getX (v := 192) gz_214_21 is_151 rd_10 rfl (by decide) rfl ?_
  refine w_aload_n gz_214_24 rfl ?_
  refine v_getI (j := 48) gz_214_25 rfl is_151 rd_10 rfl (fun v12 ev12 pv12 qv12 => ?_)
  have zv12 := ev12.trans ((my_up_role fh10 is_151 is_191 rfl).trans ev7.symm)
  refine w_iload_n gz_214_28 rfl ?_
  have i29 : v12 = k151_48 := by omega
  have hi13 : 0 ≤ v12 := by omega
  have hi14 : v12 ≤ 1799 := by omega
  refine w_iast gz_214_29 is_192 rd_91 (by omega) (by omega) (by omega) (by omega) (fun h15 fh15 => ?_)
  have gh15 : my_fr [(10, 48), (89, -1), (90, -1), (91, -1), (92, -1), (93, -1)] h h15 := my_fr.up gh10 is_192 fh15 rfl
  have f29 := fh15
  rw [i29] at f29
  refine w_aload_n gz_214_30 rfl ?_
  refine w_getX (v := 193) gz_214_31 is_151 rd_10 rfl (by decide) rfl ?_
  refine w_aload_n gz_214_34 rfl ?_
  refine v_getI (j := 48) gz_214_35 rfl is_151 rd_10 rfl (fun v17 ev17 pv17 qv17 => ?_)
  have zv17 := ev17.trans ((my_up_role fh15 is_151 is_192 rfl).trans ev12.symm)
  refine w_iload gz_214_38 rfl ?_
  have i40 : v17 = k151_48 := by omega
  have hi18 : 0 ≤ v17 := by omega
  have hi19 : v17 ≤ 1799 := by omega
  refine w_iast gz_214_40 is_193 rd_92 (by omega) (by omega) (by omega) (by omega) (fun h20 fh20 => ?_)
  have gh20 : my_fr [(10, 48), (89, -1), (90, -1), (91, -1), (92, -1), (93, -1)] h h20 := my_fr.up gh15 is_193 fh20 rfl
  have f40 := fh20
  rw [i40] at f40
  refine w_aload_n gz_214_41 rfl ?_
  refine w_getX (v := 194) gz_214_42 is_151 rd_10 rfl (by decide) rfl ?_
  refine w_aload_n gz_214_45 rfl ?_
  refine v_getI (j := 48) gz_214_46 rfl is_151 rd_10 rfl (fun v22 ev22 pv22 qv22 => ?_)
  have zv22 := ev22.trans ((my_up_role fh20 is_151 is_193 rfl).trans ev17.symm)
  refine w_iload gz_214_49 rfl ?_
  have i51 : v22 = k151_48 := by omega
  have hi23 : 0 ≤ v22 := by omega
  have hi24 : v22 ≤ 1799 := by omega
  refine w_iast gz_214_51 is_194 rd_93 (by omega) (by omega) (by omega) (by omega) (fun h25 fh25 => ?_)
  have gh25 : my_fr [(10, 48), (89, -1), (90, -1), (91, -1), (92, -1), (93, -1)] h h25 := my_fr.up gh20 is_194 fh25 rfl
  have f51 := fh25
  rw [i51] at f51
  refine w_aload_n gz_214_52 rfl ?_
  refine w_dup gz_214_53 rfl ?_
  refine v_getI (j := 48) gz_214_54 rfl is_151 rd_10 rfl (fun v26 ev26 pv26 qv26 => ?_)
  have zv26 := ev26.trans ((my_up_role fh25 is_151 is_194 rfl).trans ev22.symm)
  refine w_iconst gz_214_57 (by decide) ?_
  refine w_iadd gz_214_58 ⟨by omega, by omega⟩ ?_
  have hi27 : 0 ≤ (v26 + 1) := by omega
  have hi28 : (v26 + 1) ≤ 1800 := by omega
  refine v_putI (j := 48) gz_214_59 rfl is_151 rd_10 rfl (by omega) (by omega) rfl (fun h29 fh29 => ?_)
  have gh29 : my_fr [(10, 48), (89, -1), (90, -1), (91, -1), (92, -1), (93, -1)] h h29 := my_fr.up gh25 is_151 fh29 rfl
  have Wys_h29t30 : Wys h29 := Wys_add n_Wys ek151_48 f9 f19 f29 f40 f51 fh29 (by omega) k1 k2
  have k59 := my_up_self fh29
  have c31 := (my_up_self fh29)
  exact w_vret gz_214_62 gm_214 (k0 h29 (gh29) (by omega) (by omega) (by first | exact WyL_s (by omega) fh5 (by omega) fh10 (by omega) fh15 (by omega) fh20 (by omega) fh25 (by omega) fh29 (by omega) | assumption | omega) (by first | exact WyL_s (by omega) fh5 (by omega) fh10 (by omega) fh15 (by omega) fh20 (by omega) fh25 (by omega) fh29 (by omega) | assumption | omega) Wys_h29t30)
theorem c_Model_fillOf5 {l : Launch} {rho : Nat → Int32} {d : Nat} {h : my_H} {Q : my_H → my_V → Prop} {x1 : Int} (a1 : 0 ≤ x1) (b1 : x1 ≤ 3) (hmw : Mw h) (hcb : 1 ≤ h 151 32 ∧ h 151 32 ≤ 6) (htop : 0 ≤ (h 177 (h 151 32 - 1)) ∧ (h 177 (h 151 32 - 1)) ≤ 5 ∧ h 164 (h 177 (h 151 32 - 1)) = 1) (hfc : Fc h h (h 151 32) (-1) (h 177 (h 151 32 - 1))) (k0 : 0 = mFil h (h 177 (h 151 32 - 1)) x1 → Q h (0, 0)) (k1 : ∀ (y : Int), 0 ≤ y → y ≤ 19 → 1 ≤ h 151 32 → h 151 32 ≤ 6 → y = mFil h (h 177 (h 151 32 - 1)) x1 → Q h (0, y)) : wp l rho d 218 0 [(2, 151), (0, x1), (9, 0)] [] h Q := by
  obtain ⟨W, hW⟩ := id hmw
  have J7_0 : ∀ (n : Nat) (p7_0 p7_1 : Int), (-1) ≤ p7_0 → p7_0 ≤ 5 → 0 ≤ p7_1 → p7_1 ≤ 6 → p7_0 ≤ (p7_1 - 1) → h 151 32 = p7_1 → FlI h (h 177 (h 151 32 - 1)) x1 p7_0 → p7_0 - (-2) ≤ (n : Int) → wp l rho d 218 7 [(2, 151), (0, x1), (0, p7_0)] [] h Q := by
    intro n
    induction n with
    | zero => intro p7_0 p7_1 q0_7_0 q1_7_0 q2_7_0 q3_7_0 q4_7_0 c151_32_7_0 fi_7_0 hm_7_0; exfalso; omega
    | succ n ih_7_0 =>
      intro p7_0 p7_1 q0_7_0 q1_7_0 q2_7_0 q3_7_0 q4_7_0 c151_32_7_0 fi_7_0 hm_7_0
      refine w_iload_n gz_218_7 rfl ?_
      refine w_iflt (t := 51) gz_218_8 rfl (fun u1 => ?_) (fun u1 => ?_)
      ·
        refine w_iconst gz_218_51 (by decide) ?_
        exact w_iret gz_218_52 gm_218 (k0 (by first | exact (fi_7_0.2 (by omega)).symm | (rw [show 0 = _ from f8x]) | exact (by have q := Fl_y hW htop.1 htop.2.1 htop.2.2 hfc (by omega) (by omega) fi_7_0 f8 (by omega); omega) | assumption | omega))
      ·
        refine w_aload_n gz_218_11 rfl ?_
        refine w_getX (v := 173) gz_218_12 is_151 rd_10 rfl (by decide) rfl ?_
        refine w_iconst gz_218_15 (by decide) ?_
        refine w_aload_n gz_218_16 rfl ?_
        refine w_getX (v := 177) gz_218_17 is_151 rd_10 rfl (by decide) rfl ?_
        refine w_iload_n gz_218_20 rfl ?_
        refine w_iald gz_218_21 is_177 rd_76 (by omega) (by omega) (fun v4 ev4 pv4 qv4 => ?_)
        refine w_imul gz_218_22 ⟨by omega, by omega⟩ ?_
        refine w_iload_n gz_218_23 rfl ?_
        refine w_iadd gz_218_24 ⟨by omega, by omega⟩ ?_
        refine w_iald gz_218_25 is_173 rd_72 (by omega) (by omega) (fun v5 ev5 pv5 qv5 => ?_)
        have fi : ∀ j : Int, j = ((4 * v4) + x1) → h 173 j = v5 := fun j q => by rw [q]; omega
        have f8 : h 173 (4 * h 177 p7_0 + x1) = v5 := by
          rw [show (4 * h 177 p7_0 + x1 : Int) = ((4 * v4) + x1) by omega]
          omega
        refine w_iflt (t := 45) gz_218_26 rfl (fun u6 => ?_) (fun u6 => ?_)
        ·
          refine w_iinc (ls' := [(2, 151), (0, x1), (0, (p7_0 + (-1)))]) gz_218_45 rfl gm_218 rfl rfl rfl ⟨by omega, by omega⟩ ?_
          refine w_goto (t := 7) gz_218_48 rfl ?_
          exact ih_7_0 ((p7_0 + (-1))) (p7_1) (by omega) (by omega) (by omega) (by omega) (by omega) (c151_32_7_0.trans (by omega)) (by first | exact Fl_0 (by omega) (congrArg (h 177) (by omega)) | exact Fl_s hW htop.1 htop.2.1 htop.2.2 hfc (by omega) (by omega) fi_7_0 f8 (by omega) | assumption | omega) (by omega)
        ·
          refine w_aload_n gz_218_29 rfl ?_
          refine w_getX (v := 173) gz_218_30 is_151 rd_10 rfl (by decide) rfl ?_
          refine w_iconst gz_218_33 (by decide) ?_
          refine w_aload_n gz_218_34 rfl ?_
          refine w_getX (v := 177) gz_218_35 is_151 rd_10 rfl (by decide) rfl ?_
          refine w_iload_n gz_218_38 rfl ?_
          refine w_iald gz_218_39 is_177 rd_76 (by omega) (by omega) (fun v9 ev9 pv9 qv9 => ?_)
          have zv9 := ev9.trans ev4.symm
          refine w_imul gz_218_40 ⟨by omega, by omega⟩ ?_
          refine w_iload_n gz_218_41 rfl ?_
          refine w_iadd gz_218_42 ⟨by omega, by omega⟩ ?_
          refine w_iald gz_218_43 is_173 rd_72 (by omega) (by omega) (fun v10 ev10 pv10 qv10 => ?_)
          have fz := fi ((4 * v9) + x1) (by omega)
          have hi11 : 0 ≤ v10 := by omega
          have hi12 : v10 ≤ 19 := by omega
          have c13 := c151_32_7_0
          exact w_iret gz_218_44 gm_218 (k1 (v10) (by omega) (by omega) (by omega) (by omega) (by first | exact (fi_7_0.2 (by omega)).symm | (rw [show v10 = _ from f8x]) | exact (by have q := Fl_y hW htop.1 htop.2.1 htop.2.2 hfc (by omega) (by omega) fi_7_0 f8 (by omega); omega) | assumption | omega))
  refine w_aload_n gz_218_0 rfl ?_
  refine v_getI (j := 32) gz_218_1 rfl is_151 rd_10 rfl (fun v14 ev14 pv14 qv14 => ?_)
  refine w_iconst gz_218_4 (by decide) ?_
  refine w_isub gz_218_5 ⟨by omega, by omega⟩ ?_
  refine w_istore_n (ls' := [(2, 151), (0, x1), (0, (v14 - 1))]) gz_218_6 gm_218 rfl rfl rfl ?_
  exact J7_0 7 ((v14 - 1)) (v14) (by omega) (by omega) (by omega) (by omega) (by omega) (ev14.symm.trans (by omega)) (by first | exact Fl_0 (by omega) (congrArg (h 177) (by omega)) | exact Fl_s hW htop.1 htop.2.1 htop.2.2 hfc (by omega) (by omega) fi_7_0 f8 (by omega) | assumption | omega) (by omega)
theorem c_Model_leastWay5 {l : Launch} {rho : Nat → Int32} {d : Nat} {h : my_H} {Q : my_H → my_V → Prop} (n_Wys : Wys h) (k0 : ∀ (y : Int), (-1) ≤ y → y ≤ 1800 → y < h 151 48 → LeI h y (h 151 48) → Q h (0, y)) : wp l rho (d + 1) 220 0 [(2, 151), (9, 0), (9, 0)] [] h Q := by
  refine v_know (x := 151) (j := 48) (b := 48) rfl is_151 rd_10 rfl (fun k151_48 ek151_48 pk151_48 qk151_48 => ?_)
  have J4_0 : ∀ (n : Nat) (p4_0 p4_1 : Int), (-1) ≤ p4_0 → p4_0 ≤ 1800 → 0 ≤ p4_1 → p4_1 ≤ 1800 → p4_0 ≤ (p4_1 - 1) → p4_0 ≤ (k151_48 - 1) → p4_1 ≤ k151_48 → h 151 48 = k151_48 → Wys h → p4_0 < k151_48 → LeI h p4_0 p4_1 → 1801 - p4_1 ≤ (n : Int) → wp l rho (d + 1) 220 4 [(2, 151), (0, p4_0), (0, p4_1)] [] h Q := by
    intro n
    induction n with
    | zero => intro p4_0 p4_1 q0_4_0 q1_4_0 q2_4_0 q3_4_0 q4_4_0 q5_4_0 q6_4_0 c151_48_4_0 n_Wys_4_0 bw_4_0 le_4_0 hm_4_0; exfalso; omega
    | succ n ih_4_0 =>
      intro p4_0 p4_1 q0_4_0 q1_4_0 q2_4_0 q3_4_0 q4_4_0 q5_4_0 q6_4_0 c151_48_4_0 n_Wys_4_0 bw_4_0 le_4_0 hm_4_0
      refine w_iload_n gz_220_4 rfl ?_
      refine w_aload_n gz_220_5 rfl ?_
      refine v_getI (j := 48) gz_220_6 rfl is_151 rd_10 rfl (fun v1 ev1 pv1 qv1 => ?_)
      have zv1 := ev1.trans c151_48_4_0
      refine w_icge (t := 41) gz_220_9 rfl (fun u2 => ?_) (fun u2 => ?_)
      ·
        refine w_iload_n gz_220_41 rfl ?_
        exact w_iret gz_220_42 gm_220 (k0 (p4_0) (by omega) (by omega) (by first | (have q := le_4_0; rw [show p4_1 = h 151 48 by omega] at q; exact q) | assumption | omega) (by first | (have q := le_4_0; rw [show p4_1 = h 151 48 by omega] at q; exact q) | assumption | omega))
      ·
        refine w_iload_n gz_220_12 rfl ?_
        refine w_iflt (t := 29) gz_220_13 rfl (fun u3 => ?_) (fun u3 => ?_)
        ·
          refine w_iload_n gz_220_29 rfl ?_
          refine w_goto (t := 34) gz_220_30 rfl ?_
          refine w_istore_n (ls' := [(2, 151), (0, p4_1), (0, p4_1)]) gz_220_34 gm_220 rfl rfl rfl ?_
          refine w_iinc (ls' := [(2, 151), (0, p4_1), (0, (p4_1 + 1))]) gz_220_35 rfl gm_220 rfl rfl rfl ⟨by omega, by omega⟩ ?_
          refine w_goto (t := 4) gz_220_38 rfl ?_
          exact ih_4_0 (p4_1) ((p4_1 + 1)) (by omega) (by omega) (by omega) (by omega) (by omega) (by omega) (by omega) (ev1.symm.trans (by omega)) n_Wys_4_0 (by first | assumption | omega | (subst_vars; omega) | omega) (by first | exact LeI_0 | exact LeI_f (by omega) le_4_0 (by omega) | exact LeI_y (by omega) le_4_0 (by omega) px_p4_1 px_p4_0 (by omega) | exact LeI_n (by omega) le_4_0 (by omega) px_p4_1 px_p4_0 (by omega) | assumption | omega) (by omega)
        ·
          refine w_aload_n gz_220_16 rfl ?_
          refine w_iload_n gz_220_17 rfl ?_
          refine w_inv (k := 0) (as := [(0, p4_1)]) (r := []) (x := 151) (ls0 := [(2, 151), (0, p4_1)]) gz_220_18 gm_221 rfl is_151 rd_10 rfl rfl rfl rfl rfl ?_
          refine w_aload_n gz_221_0 rfl ?_
          refine w_getX (v := 190) gz_221_1 is_151 rd_10 rfl (by decide) rfl ?_
          refine w_iload_n gz_221_4 rfl ?_
          refine w_iald gz_221_5 is_190 rd_89 (by omega) (by omega) (fun v5 ev5 pv5 qv5 => ?_)
          have pk_p4_1 : h 190 p4_1 = v5 := by omega
          refine w_iconst gz_221_6 (by decide) ?_
          refine w_icge (t := 19) gz_221_7 rfl (fun u6 => ?_) (fun u6 => ?_)
          ·
            refine w_aload_n gz_221_19 rfl ?_
            refine w_getX (v := 157) gz_221_20 is_151 rd_10 rfl (by decide) rfl ?_
            refine w_aload_n gz_221_23 rfl ?_
            refine w_getX (v := 191) gz_221_24 is_151 rd_10 rfl (by decide) rfl ?_
            refine w_iload_n gz_221_27 rfl ?_
            refine w_iald gz_221_28 is_191 rd_90 (by omega) (by omega) (fun v9 ev9 pv9 qv9 => ?_)
            have pw_p4_1 : h 191 p4_1 = v9 := by omega
            have hi10 : 0 ≤ v9 := by have q := n_Wys_4_0 p4_1 (by omega) (by omega); omega
            have hi11 : v9 ≤ 2 := by have q := n_Wys_4_0 p4_1 (by omega) (by omega); omega
            refine w_iald gz_221_29 is_157 rd_56 (by omega) (by omega) (fun v12 ev12 pv12 qv12 => ?_)
            have px_p4_1 : v12 = zqPr (h 157) (wyA h p4_1) := by first | exact Pr_k (by omega) (by omega) | exact Pr_w pk_p4_1 (by omega) pw_p4_1 (by omega)
            refine w_iret gz_221_30 gm_221 ?_
            show wp l rho (d + 1) 220 21 [(2, 151), (0, p4_0), (0, p4_1)] [(0, v12)] h Q
            refine w_aload_n gz_220_21 rfl ?_
            refine w_iload_n gz_220_22 rfl ?_
            refine w_inv (k := 0) (as := [(0, p4_0)]) (r := [(0, v12)]) (x := 151) (ls0 := [(2, 151), (0, p4_0)]) gz_220_23 gm_221 rfl is_151 rd_10 rfl rfl rfl rfl rfl ?_
            refine w_aload_n gz_221_0 rfl ?_
            refine w_getX (v := 190) gz_221_1 is_151 rd_10 rfl (by decide) rfl ?_
            refine w_iload_n gz_221_4 rfl ?_
            refine w_iald gz_221_5 is_190 rd_89 (by omega) (by omega) (fun v14 ev14 pv14 qv14 => ?_)
            have pk_p4_0 : h 190 p4_0 = v14 := by omega
            refine w_iconst gz_221_6 (by decide) ?_
            refine w_icge (t := 19) gz_221_7 rfl (fun u15 => ?_) (fun u15 => ?_)
            ·
              refine w_aload_n gz_221_19 rfl ?_
              refine w_getX (v := 157) gz_221_20 is_151 rd_10 rfl (by decide) rfl ?_
              refine w_aload_n gz_221_23 rfl ?_
              refine w_getX (v := 191) gz_221_24 is_151 rd_10 rfl (by decide) rfl ?_
              refine w_iload_n gz_221_27 rfl ?_
              refine w_iald gz_221_28 is_191 rd_90 (by omega) (by omega) (fun v18 ev18 pv18 qv18 => ?_)
              have pw_p4_0 : h 191 p4_0 = v18 := by omega
              have hi19 : 0 ≤ v18 := by have q := n_Wys_4_0 p4_0 (by omega) (by omega); omega
              have hi20 : v18 ≤ 2 := by have q := n_Wys_4_0 p4_0 (by omega) (by omega); omega
              refine w_iald gz_221_29 is_157 rd_56 (by omega) (by omega) (fun v21 ev21 pv21 qv21 => ?_)
              have px_p4_0 : v21 = zqPr (h 157) (wyA h p4_0) := by first | exact Pr_k (by omega) (by omega) | exact Pr_w pk_p4_0 (by omega) pw_p4_0 (by omega)
              refine w_iret gz_221_30 gm_221 ?_
              show wp l rho (d + 1) 220 26 [(2, 151), (0, p4_0), (0, p4_1)] [(0, v21), (0, v12)] h Q
              refine w_icge (t := 33) gz_220_26 rfl (fun u22 => ?_) (fun u22 => ?_)
              ·
                refine w_iload_n gz_220_33 rfl ?_
                refine w_istore_n (ls' := [(2, 151), (0, p4_0), (0, p4_1)]) gz_220_34 gm_220 rfl rfl rfl ?_
                refine w_iinc (ls' := [(2, 151), (0, p4_0), (0, (p4_1 + 1))]) gz_220_35 rfl gm_220 rfl rfl rfl ⟨by omega, by omega⟩ ?_
                refine w_goto (t := 4) gz_220_38 rfl ?_
                exact ih_4_0 (p4_0) ((p4_1 + 1)) (by omega) (by omega) (by omega) (by omega) (by omega) (by omega) (by omega) (ev1.symm.trans (by omega)) n_Wys_4_0 (by first | assumption | omega | (subst_vars; omega) | omega) (by first | exact LeI_0 | exact LeI_f (by omega) le_4_0 (by omega) | exact LeI_y (by omega) le_4_0 (by omega) px_p4_1 px_p4_0 (by omega) | exact LeI_n (by omega) le_4_0 (by omega) px_p4_1 px_p4_0 (by omega) | assumption | omega) (by omega)
              ·
                refine w_iload_n gz_220_29 rfl ?_
                refine w_goto (t := 34) gz_220_30 rfl ?_
                refine w_istore_n (ls' := [(2, 151), (0, p4_1), (0, p4_1)]) gz_220_34 gm_220 rfl rfl rfl ?_
                refine w_iinc (ls' := [(2, 151), (0, p4_1), (0, (p4_1 + 1))]) gz_220_35 rfl gm_220 rfl rfl rfl ⟨by omega, by omega⟩ ?_
                refine w_goto (t := 4) gz_220_38 rfl ?_
                exact ih_4_0 (p4_1) ((p4_1 + 1)) (by omega) (by omega) (by omega) (by omega) (by omega) (by omega) (by omega) (ev1.symm.trans (by omega)) n_Wys_4_0 (by first | assumption | omega | (subst_vars; omega) | omega) (by first | exact LeI_0 | exact LeI_f (by omega) le_4_0 (by omega) | exact LeI_y (by omega) le_4_0 (by omega) px_p4_1 px_p4_0 (by omega) | exact LeI_n (by omega) le_4_0 (by omega) px_p4_1 px_p4_0 (by omega) | assumption | omega) (by omega)
            ·
              refine w_aload_n gz_221_10 rfl ?_
              refine w_getX (v := 190) gz_221_11 is_151 rd_10 rfl (by decide) rfl ?_
              refine w_iload_n gz_221_14 rfl ?_
              refine w_iald gz_221_15 is_190 rd_89 (by omega) (by omega) (fun v24 ev24 pv24 qv24 => ?_)
              have zv24 := ev24.trans ev14.symm
              refine w_goto (t := 30) gz_221_16 rfl ?_
              have px_p4_0 : v24 = zqPr (h 157) (wyA h p4_0) := by first | exact Pr_k (by omega) (by omega) | exact Pr_w pk_p4_0 (by omega) pw_p4_0 (by omega)
              refine w_iret gz_221_30 gm_221 ?_
              show wp l rho (d + 1) 220 26 [(2, 151), (0, p4_0), (0, p4_1)] [(0, v24), (0, v12)] h Q
              refine w_icge (t := 33) gz_220_26 rfl (fun u25 => ?_) (fun u25 => ?_)
              ·
                refine w_iload_n gz_220_33 rfl ?_
                refine w_istore_n (ls' := [(2, 151), (0, p4_0), (0, p4_1)]) gz_220_34 gm_220 rfl rfl rfl ?_
                refine w_iinc (ls' := [(2, 151), (0, p4_0), (0, (p4_1 + 1))]) gz_220_35 rfl gm_220 rfl rfl rfl ⟨by omega, by omega⟩ ?_
                refine w_goto (t := 4) gz_220_38 rfl ?_
                exact ih_4_0 (p4_0) ((p4_1 + 1)) (by omega) (by omega) (by omega) (by omega) (by omega) (by omega) (by omega) (ev1.symm.trans (by omega)) n_Wys_4_0 (by first | assumption | omega | (subst_vars; omega) | omega) (by first | exact LeI_0 | exact LeI_f (by omega) le_4_0 (by omega) | exact LeI_y (by omega) le_4_0 (by omega) px_p4_1 px_p4_0 (by omega) | exact LeI_n (by omega) le_4_0 (by omega) px_p4_1 px_p4_0 (by omega) | assumption | omega) (by omega)
              ·
                refine w_iload_n gz_220_29 rfl ?_
                refine w_goto (t := 34) gz_220_30 rfl ?_
                refine w_istore_n (ls' := [(2, 151), (0, p4_1), (0, p4_1)]) gz_220_34 gm_220 rfl rfl rfl ?_
                refine w_iinc (ls' := [(2, 151), (0, p4_1), (0, (p4_1 + 1))]) gz_220_35 rfl gm_220 rfl rfl rfl ⟨by omega, by omega⟩ ?_
                refine w_goto (t := 4) gz_220_38 rfl ?_
                exact ih_4_0 (p4_1) ((p4_1 + 1)) (by omega) (by omega) (by omega) (by omega) (by omega) (by omega) (by omega) (ev1.symm.trans (by omega)) n_Wys_4_0 (by first | assumption | omega | (subst_vars; omega) | omega) (by first | exact LeI_0 | exact LeI_f (by omega) le_4_0 (by omega) | exact LeI_y (by omega) le_4_0 (by omega) px_p4_1 px_p4_0 (by omega) | exact LeI_n (by omega) le_4_0 (by omega) px_p4_1 px_p4_0 (by omega) | assumption | omega) (by omega)
          ·
            refine w_aload_n gz_221_10 rfl ?_
            refine w_getX (v := 190) gz_221_11 is_151 rd_10 rfl (by decide) rfl ?_
            refine w_iload_n gz_221_14 rfl ?_
            refine w_iald gz_221_15 is_190 rd_89 (by omega) (by omega) (fun v27 ev27 pv27 qv27 => ?_)
            have zv27 := ev27.trans ev5.symm
            refine w_goto (t := 30) gz_221_16 rfl ?_
            have px_p4_1 : v27 = zqPr (h 157) (wyA h p4_1) := by first | exact Pr_k (by omega) (by omega) | exact Pr_w pk_p4_1 (by omega) pw_p4_1 (by omega)
            refine w_iret gz_221_30 gm_221 ?_
            show wp l rho (d + 1) 220 21 [(2, 151), (0, p4_0), (0, p4_1)] [(0, v27)] h Q
            refine w_aload_n gz_220_21 rfl ?_
            refine w_iload_n gz_220_22 rfl ?_
            refine w_inv (k := 0) (as := [(0, p4_0)]) (r := [(0, v27)]) (x := 151) (ls0 := [(2, 151), (0, p4_0)]) gz_220_23 gm_221 rfl is_151 rd_10 rfl rfl rfl rfl rfl ?_
            refine w_aload_n gz_221_0 rfl ?_
            refine w_getX (v := 190) gz_221_1 is_151 rd_10 rfl (by decide) rfl ?_
            refine w_iload_n gz_221_4 rfl ?_
            refine w_iald gz_221_5 is_190 rd_89 (by omega) (by omega) (fun v29 ev29 pv29 qv29 => ?_)
            have pk_p4_0 : h 190 p4_0 = v29 := by omega
            refine w_iconst gz_221_6 (by decide) ?_
            refine w_icge (t := 19) gz_221_7 rfl (fun u30 => ?_) (fun u30 => ?_)
            ·
              refine w_aload_n gz_221_19 rfl ?_
              refine w_getX (v := 157) gz_221_20 is_151 rd_10 rfl (by decide) rfl ?_
              refine w_aload_n gz_221_23 rfl ?_
              refine w_getX (v := 191) gz_221_24 is_151 rd_10 rfl (by decide) rfl ?_
              refine w_iload_n gz_221_27 rfl ?_
              refine w_iald gz_221_28 is_191 rd_90 (by omega) (by omega) (fun v33 ev33 pv33 qv33 => ?_)
              have pw_p4_0 : h 191 p4_0 = v33 := by omega
              have hi34 : 0 ≤ v33 := by have q := n_Wys_4_0 p4_0 (by omega) (by omega); omega
              have hi35 : v33 ≤ 2 := by have q := n_Wys_4_0 p4_0 (by omega) (by omega); omega
              refine w_iald gz_221_29 is_157 rd_56 (by omega) (by omega) (fun v36 ev36 pv36 qv36 => ?_)
              have px_p4_0 : v36 = zqPr (h 157) (wyA h p4_0) := by first | exact Pr_k (by omega) (by omega) | exact Pr_w pk_p4_0 (by omega) pw_p4_0 (by omega)
              refine w_iret gz_221_30 gm_221 ?_
              show wp l rho (d + 1) 220 26 [(2, 151), (0, p4_0), (0, p4_1)] [(0, v36), (0, v27)] h Q
              refine w_icge (t := 33) gz_220_26 rfl (fun u37 => ?_) (fun u37 => ?_)
              ·
                refine w_iload_n gz_220_33 rfl ?_
                refine w_istore_n (ls' := [(2, 151), (0, p4_0), (0, p4_1)]) gz_220_34 gm_220 rfl rfl rfl ?_
                refine w_iinc (ls' := [(2, 151), (0, p4_0), (0, (p4_1 + 1))]) gz_220_35 rfl gm_220 rfl rfl rfl ⟨by omega, by omega⟩ ?_
                refine w_goto (t := 4) gz_220_38 rfl ?_
                exact ih_4_0 (p4_0) ((p4_1 + 1)) (by omega) (by omega) (by omega) (by omega) (by omega) (by omega) (by omega) (ev1.symm.trans (by omega)) n_Wys_4_0 (by first | assumption | omega | (subst_vars; omega) | omega) (by first | exact LeI_0 | exact LeI_f (by omega) le_4_0 (by omega) | exact LeI_y (by omega) le_4_0 (by omega) px_p4_1 px_p4_0 (by omega) | exact LeI_n (by omega) le_4_0 (by omega) px_p4_1 px_p4_0 (by omega) | assumption | omega) (by omega)
              ·
                refine w_iload_n gz_220_29 rfl ?_
                refine w_goto (t := 34) gz_220_30 rfl ?_
                refine w_istore_n (ls' := [(2, 151), (0, p4_1), (0, p4_1)]) gz_220_34 gm_220 rfl rfl rfl ?_
                refine w_iinc (ls' := [(2, 151), (0, p4_1), (0, (p4_1 + 1))]) gz_220_35 rfl gm_220 rfl rfl rfl ⟨by omega, by omega⟩ ?_
                refine w_goto (t := 4) gz_220_38 rfl ?_
                exact ih_4_0 (p4_1) ((p4_1 + 1)) (by omega) (by omega) (by omega) (by omega) (by omega) (by omega) (by omega) (ev1.symm.trans (by omega)) n_Wys_4_0 (by first | assumption | omega | (subst_vars; omega) | omega) (by first | exact LeI_0 | exact LeI_f (by omega) le_4_0 (by omega) | exact LeI_y (by omega) le_4_0 (by omega) px_p4_1 px_p4_0 (by omega) | exact LeI_n (by omega) le_4_0 (by omega) px_p4_1 px_p4_0 (by omega) | assumption | omega) (by omega)
            ·
              refine w_aload_n gz_221_10 rfl ?_
              refine w_getX (v := 190) gz_221_11 is_151 rd_10 rfl (by decide) rfl ?_
              refine w_iload_n gz_221_14 rfl ?_
              refine w_iald gz_221_15 is_190 rd_89 (by omega) (by omega) (fun v39 ev39 pv39 qv39 => ?_)
              have zv39 := ev39.trans ev29.symm
              refine w_goto (t := 30) gz_221_16 rfl ?_
              have px_p4_0 : v39 = zqPr (h 157) (wyA h p4_0) := by first | exact Pr_k (by omega) (by omega) | exact Pr_w pk_p4_0 (by omega) pw_p4_0 (by omega)
              refine w_iret gz_221_30 gm_221 ?_
              show wp l rho (d + 1) 220 26 [(2, 151), (0, p4_0), (0, p4_1)] [(0, v39), (0, v27)] h Q
              refine w_icge (t := 33) gz_220_26 rfl (fun u40 => ?_) (fun u40 => ?_)
              ·
                refine w_iload_n gz_220_33 rfl ?_
                refine w_istore_n (ls' := [(2, 151), (0, p4_0), (0, p4_1)]) gz_220_34 gm_220 rfl rfl rfl ?_
                refine w_iinc (ls' := [(2, 151), (0, p4_0), (0, (p4_1 + 1))]) gz_220_35 rfl gm_220 rfl rfl rfl ⟨by omega, by omega⟩ ?_
                refine w_goto (t := 4) gz_220_38 rfl ?_
                exact ih_4_0 (p4_0) ((p4_1 + 1)) (by omega) (by omega) (by omega) (by omega) (by omega) (by omega) (by omega) (ev1.symm.trans (by omega)) n_Wys_4_0 (by first | assumption | omega | (subst_vars; omega) | omega) (by first | exact LeI_0 | exact LeI_f (by omega) le_4_0 (by omega) | exact LeI_y (by omega) le_4_0 (by omega) px_p4_1 px_p4_0 (by omega) | exact LeI_n (by omega) le_4_0 (by omega) px_p4_1 px_p4_0 (by omega) | assumption | omega) (by omega)
              ·
                refine w_iload_n gz_220_29 rfl ?_
                refine w_goto (t := 34) gz_220_30 rfl ?_
                refine w_istore_n (ls' := [(2, 151), (0, p4_1), (0, p4_1)]) gz_220_34 gm_220 rfl rfl rfl ?_
                refine w_iinc (ls' := [(2, 151), (0, p4_1), (0, (p4_1 + 1))]) gz_220_35 rfl gm_220 rfl rfl rfl ⟨by omega, by omega⟩ ?_
                refine w_goto (t := 4) gz_220_38 rfl ?_
                exact ih_4_0 (p4_1) ((p4_1 + 1)) (by omega) (by omega) (by omega) (by omega) (by omega) (by omega) (by omega) (ev1.symm.trans (by omega)) n_Wys_4_0 (by first | assumption | omega | (subst_vars; omega) | omega) (by first | exact LeI_0 | exact LeI_f (by omega) le_4_0 (by omega) | exact LeI_y (by omega) le_4_0 (by omega) px_p4_1 px_p4_0 (by omega) | exact LeI_n (by omega) le_4_0 (by omega) px_p4_1 px_p4_0 (by omega) | assumption | omega) (by omega)
  refine w_iconst gz_220_0 (by decide) ?_
  refine w_istore_n (ls' := [(2, 151), (0, (-1)), (9, 0)]) gz_220_1 gm_220 rfl rfl rfl ?_
  refine w_iconst gz_220_2 (by decide) ?_
  refine w_istore_n (ls' := [(2, 151), (0, (-1)), (0, 0)]) gz_220_3 gm_220 rfl rfl rfl ?_
  exact J4_0 1801 ((-1)) (0) (by omega) (by omega) (by omega) (by omega) (by omega) (by omega) (by omega) (ek151_48.symm.trans (by omega)) n_Wys (by first | assumption | omega | (subst_vars; omega) | omega) (by first | exact LeI_0 | exact LeI_f (by omega) le_4_0 (by omega) | exact LeI_y (by omega) le_4_0 (by omega) px_p4_1 px_p4_0 (by omega) | exact LeI_n (by omega) le_4_0 (by omega) px_p4_1 px_p4_0 (by omega) | assumption | omega) (by omega)
theorem c_Model_isWanted5 {l : Launch} {rho : Nat → Int32} {d : Nat} {h : my_H} {Q : my_H → my_V → Prop} {x1 x2 : Int} (a1 : 0 ≤ x1) (b1 : x1 ≤ 15) (a2 : 0 ≤ x2) (b2 : x2 ≤ 5) (n_Mw : Mw h) (n_Mw3 : Mw3 h) (n_Rws : Rws h) (n_Fp : Fp h x2) (hlm : LmW h) (hws : WSm h (MWd h x2)) (k0 : ∀ (h' : my_H) (y : Int), my_fr [(10, 27), (10, 32), (10, 33), (10, 37), (73, -1), (74, -1), (75, -1), (76, -1), (77, -1), (78, -1), (79, -1), (80, -1), (81, -1), (82, -1), (83, -1), (84, -1), (85, -1), (86, -1)] h h' → 0 ≤ y → y ≤ 1 → (y = 1 ↔ IsP h x1 x2) → Q h' (0, y)) : wp l rho (d + 4) 213 0 [(2, 151), (0, x1), (0, x2), (9, 0), (9, 0), (9, 0)] [] h Q := by
  have J26_0 : ∀ (n : Nat) (p26_0 p26_1 p26_2 p26_3 : Int) (h26_0 : my_H), my_fr [(10, 27), (10, 32), (10, 33), (10, 37), (73, -1), (74, -1), (75, -1), (76, -1), (77, -1), (78, -1), (79, -1), (80, -1), (81, -1), (82, -1), (83, -1), (84, -1), (85, -1), (86, -1)] h h26_0 → 0 ≤ p26_0 → p26_0 ≤ 1 → 0 ≤ p26_1 → p26_1 ≤ 10 → 0 ≤ p26_2 → p26_2 ≤ 10 → 0 ≤ p26_3 → p26_3 ≤ 11 → p26_1 ≤ p26_2 → h26_0 151 37 = p26_2 → h26_0 151 46 = p26_3 → Mw h26_0 → Mw3 h26_0 → Rws h26_0 → Fp h26_0 x2 → ((Eqr h26_0 (h26_0 151 37) → IsP h x1 x2) ∧ (Dif h26_0 → ¬ IsP h x1 x2)) → (p26_0 = 1 → Eqr h26_0 p26_1) → (p26_0 = 0 → Dif h26_0) → 11 - p26_1 ≤ (n : Int) → wp l rho (d + 4) 213 26 [(2, 151), (0, x1), (0, x2), (0, p26_0), (0, p26_1), (9, 0)] [] h26_0 Q := by
    intro n
    induction n with
    | zero => intro p26_0 p26_1 p26_2 p26_3 h26_0 gh_26_0 q0_26_0 q1_26_0 q2_26_0 q3_26_0 q4_26_0 q5_26_0 q6_26_0 q7_26_0 q8_26_0 c151_37_26_0 c151_46_26_0 n_Mw_26_0 n_Mw3_26_0 n_Rws_26_0 n_Fp_26_0 iw_26_0 a1_26_0 a0_26_0 hm_26_0; exfalso; omega
    | succ n ih_26_0 =>
      intro p26_0 p26_1 p26_2 p26_3 h26_0 gh_26_0 q0_26_0 q1_26_0 q2_26_0 q3_26_0 q4_26_0 q5_26_0 q6_26_0 q7_26_0 q8_26_0 c151_37_26_0 c151_46_26_0 n_Mw_26_0 n_Mw3_26_0 n_Rws_26_0 n_Fp_26_0 iw_26_0 a1_26_0 a0_26_0 hm_26_0
      have J42_0 : ∀ (n : Nat) (p42_0 p42_1 : Int) (h42_0 : my_H), my_fr [(10, 27), (10, 32), (10, 33), (10, 37), (73, -1), (74, -1), (75, -1), (76, -1), (77, -1), (78, -1), (79, -1), (80, -1), (81, -1), (82, -1), (83, -1), (84, -1), (85, -1), (86, -1)] h h42_0 → 0 ≤ p42_0 → p42_0 ≤ 1 → p26_1 ≤ 9 → 0 ≤ p42_1 → p42_1 ≤ 8 → 1 ≤ p26_2 → 1 ≤ p26_0 → p26_1 ≤ (p26_2 - 1) → h42_0 151 37 = p26_2 → h42_0 151 46 = p26_3 → Mw h42_0 → Mw3 h42_0 → Rws h42_0 → Fp h42_0 x2 → ((Eqr h42_0 (h42_0 151 37) → IsP h x1 x2) ∧ (Dif h42_0 → ¬ IsP h x1 x2)) → (p42_0 = 1 → Eqr h42_0 p26_1 ∧ Eqc h42_0 p26_1 p42_1) → (p42_0 = 0 → Dif h42_0) → 9 - p42_1 ≤ (n : Int) → wp l rho (d + 4) 213 42 [(2, 151), (0, x1), (0, x2), (0, p42_0), (0, p26_1), (0, p42_1)] [] h42_0 Q := by
        intro n
        induction n with
        | zero => intro p42_0 p42_1 h42_0 gh_42_0 q0_42_0 q1_42_0 q2_42_0 q3_42_0 q4_42_0 q5_42_0 q6_42_0 q7_42_0 c151_37_42_0 c151_46_42_0 n_Mw_42_0 n_Mw3_42_0 n_Rws_42_0 n_Fp_42_0 iw_42_0 b1_42_0 b0_42_0 hm_42_0; exfalso; omega
        | succ n ih_42_0 =>
          intro p42_0 p42_1 h42_0 gh_42_0 q0_42_0 q1_42_0 q2_42_0 q3_42_0 q4_42_0 q5_42_0 q6_42_0 q7_42_0 c151_37_42_0 c151_46_42_0 n_Mw_42_0 n_Mw3_42_0 n_Rws_42_0 n_Fp_42_0 iw_42_0 b1_42_0 b0_42_0 hm_42_0
          refine w_iload gz_213_42 rfl ?_
          refine w_aload_n gz_213_44 rfl ?_
          refine v_getI (j := 27) gz_213_45 rfl is_151 rd_10 rfl (fun v1 ev1 pv1 qv1 => ?_)
          refine w_icge (t := 96) gz_213_48 rfl (fun u2 => ?_) (fun u2 => ?_)
          ·
            refine w_iinc (ls' := [(2, 151), (0, x1), (0, x2), (0, p42_0), (0, (p26_1 + 1)), (0, p42_1)]) gz_213_96 rfl gm_213 rfl rfl rfl ⟨by omega, by omega⟩ ?_
            refine w_goto (t := 26) gz_213_99 rfl ?_
            have ce3 : h42_0 151 37 = p26_2 := c151_37_42_0
            have ce4 : h42_0 151 46 = p26_3 := c151_46_42_0
            have ce5 : h42_0 151 27 = v1 := ev1.symm
            refine w_weak (ls' := [(2, 151), (0, x1), (0, x2), (0, p42_0), (0, (p26_1 + 1)), (9, 0)]) (wk_e (wk_e (wk_e (wk_e (wk_e (wk_9 wk_n)))))) ?_
            exact ih_26_0 (p42_0) ((p26_1 + 1)) (p26_2) (p26_3) h42_0 (gh_42_0) (by omega) (by omega) (by omega) (by omega) (by omega) (by omega) (by omega) (by omega) (by omega) (c151_37_42_0.trans (by omega)) (c151_46_42_0.trans (by omega)) n_Mw_42_0 n_Mw3_42_0 n_Rws_42_0 n_Fp_42_0 (by first | exact iw0 | exact iw_26_0 | exact iw_42_0 | assumption | omega) (by first | (intro z; exfalso; omega) | (intro z; exact Eqr_0 (by omega)) | exact (fun z => Eqr_s (b1_42_0 z).1 (b1_42_0 z).2 (by omega)) | assumption | omega) (by first | (intro z; exfalso; omega) | exact (fun _ => Or.inl (by omega)) | exact b0_42_0 | assumption | omega) (by omega)
          ·
            refine w_iload_n gz_213_51 rfl ?_
            refine w_ifeq (t := 88) gz_213_52 rfl (fun u6 => ?_) (fun u6 => ?_)
            ·
              refine w_iconst gz_213_88 (by decide) ?_
              refine w_istore_n (ls' := [(2, 151), (0, x1), (0, x2), (0, 0), (0, p26_1), (0, p42_1)]) gz_213_89 gm_213 rfl rfl rfl ?_
              refine w_iinc (ls' := [(2, 151), (0, x1), (0, x2), (0, 0), (0, p26_1), (0, (p42_1 + 1))]) gz_213_90 rfl gm_213 rfl rfl rfl ⟨by omega, by omega⟩ ?_
              refine w_goto (t := 42) gz_213_93 rfl ?_
              have ce7 : h42_0 151 37 = p26_2 := c151_37_42_0
              have ce8 : h42_0 151 46 = p26_3 := c151_46_42_0
              have ce9 : h42_0 151 27 = v1 := ev1.symm
              exact ih_42_0 (0) ((p42_1 + 1)) h42_0 (gh_42_0) (by omega) (by omega) (by omega) (by omega) (by omega) (by omega) (by omega) (by omega) (c151_37_42_0.trans (by omega)) (c151_46_42_0.trans (by omega)) n_Mw_42_0 n_Mw3_42_0 n_Rws_42_0 n_Fp_42_0 (by first | exact iw0 | exact iw_26_0 | exact iw_42_0 | assumption | omega) (by first | (intro z; exfalso; omega) | exact (fun z => ⟨a1_26_0 z, Eqc_0⟩) | exact (fun _ => ⟨(b1_42_0 (by omega)).1, Eqc_s (b1_42_0 (by omega)).2 e182 e189 (by omega)⟩) | assumption | omega) (by first | (intro z; exfalso; omega) | exact a0_26_0 | exact (fun _ => b0_42_0 (by omega)) | exact (fun _ => Dif_c (by omega) (by omega) (by omega) (by omega) e182 e189 (by omega)) | assumption | omega) (by omega)
            ·
              refine w_aload_n gz_213_55 rfl ?_
              refine w_getX (v := 182) gz_213_56 is_151 rd_10 rfl (by decide) rfl ?_
              refine w_bipush gz_213_59 (by decide) ?_
              refine w_iload gz_213_61 rfl ?_
              refine w_imul gz_213_63 ⟨by omega, by omega⟩ ?_
              refine w_iload gz_213_64 rfl ?_
              refine w_iadd gz_213_66 ⟨by omega, by omega⟩ ?_
              refine w_iald gz_213_67 is_182 rd_81 (by omega) (by omega) (fun v11 ev11 pv11 qv11 => ?_)
              refine w_aload_n gz_213_68 rfl ?_
              refine w_getX (v := 189) gz_213_69 is_151 rd_10 rfl (by decide) rfl ?_
              refine w_bipush gz_213_72 (by decide) ?_
              refine w_iload gz_213_74 rfl ?_
              refine w_imul gz_213_76 ⟨by omega, by omega⟩ ?_
              refine w_iload gz_213_77 rfl ?_
              refine w_iadd gz_213_79 ⟨by omega, by omega⟩ ?_
              refine w_iald gz_213_80 is_189 rd_88 (by omega) (by omega) (fun v13 ev13 pv13 qv13 => ?_)
              have e182 : v11 = h42_0 182 (8 * p26_1 + p42_1) := by omega
              have e189 : v13 = h42_0 189 (8 * p26_1 + p42_1) := by omega
              refine w_icne (t := 88) gz_213_81 rfl (fun u14 => ?_) (fun u14 => ?_)
              ·
                refine w_iconst gz_213_88 (by decide) ?_
                refine w_istore_n (ls' := [(2, 151), (0, x1), (0, x2), (0, 0), (0, p26_1), (0, p42_1)]) gz_213_89 gm_213 rfl rfl rfl ?_
                refine w_iinc (ls' := [(2, 151), (0, x1), (0, x2), (0, 0), (0, p26_1), (0, (p42_1 + 1))]) gz_213_90 rfl gm_213 rfl rfl rfl ⟨by omega, by omega⟩ ?_
                refine w_goto (t := 42) gz_213_93 rfl ?_
                have ce15 : h42_0 151 37 = p26_2 := c151_37_42_0
                have ce16 : h42_0 151 46 = p26_3 := c151_46_42_0
                have ce17 : h42_0 151 27 = v1 := ev1.symm
                exact ih_42_0 (0) ((p42_1 + 1)) h42_0 (gh_42_0) (by omega) (by omega) (by omega) (by omega) (by omega) (by omega) (by omega) (by omega) (c151_37_42_0.trans (by omega)) (c151_46_42_0.trans (by omega)) n_Mw_42_0 n_Mw3_42_0 n_Rws_42_0 n_Fp_42_0 (by first | exact iw0 | exact iw_26_0 | exact iw_42_0 | assumption | omega) (by first | (intro z; exfalso; omega) | exact (fun z => ⟨a1_26_0 z, Eqc_0⟩) | exact (fun _ => ⟨(b1_42_0 (by omega)).1, Eqc_s (b1_42_0 (by omega)).2 e182 e189 (by omega)⟩) | assumption | omega) (by first | (intro z; exfalso; omega) | exact a0_26_0 | exact (fun _ => b0_42_0 (by omega)) | exact (fun _ => Dif_c (by omega) (by omega) (by omega) (by omega) e182 e189 (by omega)) | assumption | omega) (by omega)
              ·
                refine w_iconst gz_213_84 (by decide) ?_
                refine w_goto (t := 89) gz_213_85 rfl ?_
                refine w_istore_n (ls' := [(2, 151), (0, x1), (0, x2), (0, 1), (0, p26_1), (0, p42_1)]) gz_213_89 gm_213 rfl rfl rfl ?_
                refine w_iinc (ls' := [(2, 151), (0, x1), (0, x2), (0, 1), (0, p26_1), (0, (p42_1 + 1))]) gz_213_90 rfl gm_213 rfl rfl rfl ⟨by omega, by omega⟩ ?_
                refine w_goto (t := 42) gz_213_93 rfl ?_
                have ce18 : h42_0 151 37 = p26_2 := c151_37_42_0
                have ce19 : h42_0 151 46 = p26_3 := c151_46_42_0
                have ce20 : h42_0 151 27 = v1 := ev1.symm
                exact ih_42_0 (1) ((p42_1 + 1)) h42_0 (gh_42_0) (by omega) (by omega) (by omega) (by omega) (by omega) (by omega) (by omega) (by omega) (c151_37_42_0.trans (by omega)) (c151_46_42_0.trans (by omega)) n_Mw_42_0 n_Mw3_42_0 n_Rws_42_0 n_Fp_42_0 (by first | exact iw0 | exact iw_26_0 | exact iw_42_0 | assumption | omega) (by first | (intro z; exfalso; omega) | exact (fun z => ⟨a1_26_0 z, Eqc_0⟩) | exact (fun _ => ⟨(b1_42_0 (by omega)).1, Eqc_s (b1_42_0 (by omega)).2 e182 e189 (by omega)⟩) | assumption | omega) (by first | (intro z; exfalso; omega) | exact a0_26_0 | exact (fun _ => b0_42_0 (by omega)) | exact (fun _ => Dif_c (by omega) (by omega) (by omega) (by omega) e182 e189 (by omega)) | assumption | omega) (by omega)
      refine w_iload gz_213_26 rfl ?_
      refine w_aload_n gz_213_28 rfl ?_
      refine v_getI (j := 37) gz_213_29 rfl is_151 rd_10 rfl (fun v21 ev21 pv21 qv21 => ?_)
      have zv21 := ev21.trans c151_37_26_0
      refine w_icge (t := 102) gz_213_32 rfl (fun u22 => ?_) (fun u22 => ?_)
      ·
        refine w_iload_n gz_213_102 rfl ?_
        exact w_bret gz_213_103 gm_213 (by omega) (by omega) (k0 h26_0 (p26_0) (gh_26_0) (by omega) (by omega) (by first | exact IsE iw_26_0 a1_26_0 a0_26_0 (by omega) (by omega) (fun z => by omega) | assumption | omega))
      ·
        refine w_iload_n gz_213_35 rfl ?_
        refine w_ifeq (t := 102) gz_213_36 rfl (fun u23 => ?_) (fun u23 => ?_)
        ·
          refine w_iload_n gz_213_102 rfl ?_
          exact w_bret gz_213_103 gm_213 (by omega) (by omega) (k0 h26_0 (p26_0) (gh_26_0) (by omega) (by omega) (by first | exact IsE iw_26_0 a1_26_0 a0_26_0 (by omega) (by omega) (fun z => by omega) | assumption | omega))
        ·
          refine w_iconst gz_213_39 (by decide) ?_
          refine w_istore (ls' := [(2, 151), (0, x1), (0, x2), (0, p26_0), (0, p26_1), (0, 0)]) gz_213_40 gm_213 rfl rfl rfl ?_
          have ce24 : h26_0 151 37 = v21 := ev21.symm
          have ce25 : h26_0 151 46 = p26_3 := c151_46_26_0
          exact J42_0 9 (p26_0) (0) h26_0 (gh_26_0) (by omega) (by omega) (by omega) (by omega) (by omega) (by omega) (by omega) (by omega) (ev21.symm.trans (by omega)) (c151_46_26_0.trans (by omega)) n_Mw_26_0 n_Mw3_26_0 n_Rws_26_0 n_Fp_26_0 (by first | exact iw0 | exact iw_26_0 | exact iw_42_0 | assumption | omega) (by first | (intro z; exfalso; omega) | exact (fun z => ⟨a1_26_0 z, Eqc_0⟩) | exact (fun _ => ⟨(b1_42_0 (by omega)).1, Eqc_s (b1_42_0 (by omega)).2 e182 e189 (by omega)⟩) | assumption | omega) (by first | (intro z; exfalso; omega) | exact a0_26_0 | exact (fun _ => b0_42_0 (by omega)) | exact (fun _ => Dif_c (by omega) (by omega) (by omega) (by omega) e182 e189 (by omega)) | assumption | omega) (by omega)
  refine w_aload_n gz_213_0 rfl ?_
  refine w_iload_n gz_213_1 rfl ?_
  refine w_iload_n gz_213_2 rfl ?_
  refine w_inv (k := 5) (as := [(0, x2), (0, x1)]) (r := []) (x := 151) (ls0 := [(2, 151), (0, x1), (0, x2), (9, 0), (9, 0), (9, 0), (9, 0), (9, 0)]) gz_213_3 gm_194 rfl is_151 rd_10 rfl rfl rfl rfl rfl (c_Model_shows5 (d := d) (x1 := x1) (x2 := x2) (by omega) (by omega) (by omega) (by omega) n_Mw n_Mw3 n_Rws (by first | assumption | exact n_Fp | exact Fp_told (by omega) (by omega) | omega | (subst_vars; omega) | omega) (fun h26 frh26 xp27 xp28 xp29 xp30 => ?_))
  have gh26 : my_fr [(10, 27), (10, 32), (10, 33), (10, 37), (73, -1), (74, -1), (75, -1), (76, -1), (77, -1), (78, -1), (79, -1), (80, -1), (81, -1), (82, -1), (83, -1), (84, -1), (85, -1), (86, -1)] h h26 := my_fr.tr my_fr.rf (frh26.mo rfl)
  have Mw_h26 : Mw h26 := Mw_ag (my_ag.fr frh26 rfl) n_Mw
  have Mw3_h26 : Mw3 h26 := Mw3_ag (my_ag.fr frh26 rfl) n_Mw3
  have Rws_h26 : Rws h26 := Rws_ag (my_ag.fr frh26 rfl) n_Rws
  have Fp_h26 : Fp h26 x2 := Fp_ag (my_ag.fr frh26 rfl) n_Fp
  show wp l rho (d + 4) 213 6 [(2, 151), (0, x1), (0, x2), (9, 0), (9, 0), (9, 0)] [] h26 Q
  have t8 : h 164 x2 = 1 := n_Fp.1 (by omega)
  have w8 := LmW_8 hlm (by omega) (by omega) t8
  have wc8 := WLm_cg (W := MWd h x2) (g := h26) (h := h) (my_fr.at gh26 pis_151 rfl) (fun j => my_fr.at gh26 pis_189 rfl)
  have iw0 : (Eqr h26 (h26 151 37) → IsP h x1 x2) ∧ (Dif h26 → ¬ IsP h x1 x2) := by
    unfold IsP
    rw [← wc8.1]
    exact IsW xp28 xp29 (wc8.2 hws) w8.2
  refine w_aload_n gz_213_6 rfl ?_
  refine v_getI (j := 37) gz_213_7 rfl is_151 rd_10 rfl (fun v31 ev31 pv31 qv31 => ?_)
  refine w_aload_n gz_213_10 rfl ?_
  refine v_getI (j := 46) gz_213_11 rfl is_151 rd_10 rfl (fun v32 ev32 pv32 qv32 => ?_)
  refine w_icne (t := 21) gz_213_14 rfl (fun u33 => ?_) (fun u33 => ?_)
  ·
    refine w_iconst gz_213_21 (by decide) ?_
    refine w_istore_n (ls' := [(2, 151), (0, x1), (0, x2), (0, 0), (9, 0), (9, 0)]) gz_213_22 gm_213 rfl rfl rfl ?_
    refine w_iconst gz_213_23 (by decide) ?_
    refine w_istore (ls' := [(2, 151), (0, x1), (0, x2), (0, 0), (0, 0), (9, 0)]) gz_213_24 gm_213 rfl rfl rfl ?_
    have ce34 : h26 151 37 = v31 := ev31.symm
    have ce35 : h26 151 46 = v32 := ev32.symm
    exact J26_0 11 (0) (0) (v31) (v32) h26 (gh26) (by omega) (by omega) (by omega) (by omega) (by omega) (by omega) (by omega) (by omega) (by omega) (ev31.symm.trans (by omega)) (ev32.symm.trans (by omega)) Mw_h26 Mw3_h26 Rws_h26 Fp_h26 (by first | exact iw0 | exact iw_26_0 | exact iw_42_0 | assumption | omega) (by first | (intro z; exfalso; omega) | (intro z; exact Eqr_0 (by omega)) | exact (fun z => Eqr_s (b1_42_0 z).1 (b1_42_0 z).2 (by omega)) | assumption | omega) (by first | (intro z; exfalso; omega) | exact (fun _ => Or.inl (by omega)) | exact b0_42_0 | assumption | omega) (by omega)
  ·
    refine w_iconst gz_213_17 (by decide) ?_
    refine w_goto (t := 22) gz_213_18 rfl ?_
    refine w_istore_n (ls' := [(2, 151), (0, x1), (0, x2), (0, 1), (9, 0), (9, 0)]) gz_213_22 gm_213 rfl rfl rfl ?_
    refine w_iconst gz_213_23 (by decide) ?_
    refine w_istore (ls' := [(2, 151), (0, x1), (0, x2), (0, 1), (0, 0), (9, 0)]) gz_213_24 gm_213 rfl rfl rfl ?_
    have ce36 : h26 151 37 = v31 := ev31.symm
    have ce37 : h26 151 46 = v32 := ev32.symm
    exact J26_0 11 (1) (0) (v31) (v32) h26 (gh26) (by omega) (by omega) (by omega) (by omega) (by omega) (by omega) (by omega) (by omega) (by omega) (ev31.symm.trans (by omega)) (ev32.symm.trans (by omega)) Mw_h26 Mw3_h26 Rws_h26 Fp_h26 (by first | exact iw0 | exact iw_26_0 | exact iw_42_0 | assumption | omega) (by first | (intro z; exfalso; omega) | (intro z; exact Eqr_0 (by omega)) | exact (fun z => Eqr_s (b1_42_0 z).1 (b1_42_0 z).2 (by omega)) | assumption | omega) (by first | (intro z; exfalso; omega) | exact (fun _ => Or.inl (by omega)) | exact b0_42_0 | assumption | omega) (by omega)
theorem c_Model_findValues5 {l : Launch} {rho : Nat → Int32} {d : Nat} {h : my_H} {Q : my_H → my_V → Prop} {x1 x2 x3 : Int} (a1 : 0 ≤ x1) (b1 : x1 ≤ 5) (a2 : 0 ≤ x2) (b2 : x2 ≤ 59) (a3 : 1 ≤ x3) (b3 : x3 ≤ 3) (n_Mw : Mw h) (n_Mw3 : Mw3 h) (n_Rws : Rws h) (n_Fp : Fp h x1) (n_Wys : Wys h) (hw : h 151 48 ≤ 1780) (hlm : LmW h) (hws : WSm h (MWd h x1)) (hr : h 162 (480 + x2) = 1) (k0 : ∀ (h' : my_H), my_fr [(10, 27), (10, 32), (10, 33), (10, 37), (10, 48), (62, -1), (73, -1), (74, -1), (75, -1), (76, -1), (77, -1), (78, -1), (79, -1), (80, -1), (81, -1), (82, -1), (83, -1), (84, -1), (85, -1), (86, -1), (89, -1), (90, -1), (91, -1), (92, -1), (93, -1)] h h' → h' 151 48 ≤ h 151 48 + 19 → WyL h' = zqV (MQ1 h x1) (4 * x2 + x3) 20 ++ WyL h → (∀ j : Int, h' 163 j = h 163 j) → Wys h' → Q h' (9, 0)) : wp l rho (d + 5) 215 0 [(2, 151), (0, x1), (0, x2), (0, x3), (9, 0), (9, 0), (9, 0)] [] h Q := by
  refine v_know (x := 151) (j := 48) (b := 48) rfl is_151 rd_10 rfl (fun k151_48 ek151_48 pk151_48 qk151_48 => ?_)
  have hr4 : h 162 (60 * 8 + (4 * x2 + x3) / 4) = 1 := by rw [show 60 * 8 + (4 * x2 + x3) / 4 = 480 + x2 by omega]; exact hr
  have J23_0 : ∀ (n : Nat) (p23_0 p23_1 p23_2 p23_3 : Int) (h23_0 : my_H), my_fr [(10, 27), (10, 32), (10, 33), (10, 37), (10, 48), (62, -1), (73, -1), (74, -1), (75, -1), (76, -1), (77, -1), (78, -1), (79, -1), (80, -1), (81, -1), (82, -1), (83, -1), (84, -1), (85, -1), (86, -1), (89, -1), (90, -1), (91, -1), (92, -1), (93, -1)] h h23_0 → 1921 ≤ p23_0 → p23_0 ≤ 2159 → 0 ≤ p23_1 → p23_1 ≤ 19 → 0 ≤ p23_2 → p23_2 ≤ 20 → 0 ≤ p23_3 → p23_3 ≤ 1800 → h23_0 151 48 = p23_3 → Mw h23_0 → Mw3 h23_0 → Rws h23_0 → Fp h23_0 x1 → Wys h23_0 → h23_0 151 48 ≤ h 151 48 + p23_2 → (p23_1 < p23_2 → h23_0 151 48 + 1 ≤ h 151 48 + p23_2) → WyL h23_0 = zqV (MQ1 h x1) (4 * x2 + x3) p23_2.toNat ++ WyL h → (∀ j : Int, j ≠ 240 * 8 + (4 * x2 + x3) → h23_0 163 j = h 163 j) → p23_1 = zqMS h 8 (4 * x2 + x3) → p23_0 = 240 * 8 + (4 * x2 + x3) → 21 - p23_2 ≤ (n : Int) → wp l rho (d + 5) 215 23 [(2, 151), (0, x1), (0, x2), (0, x3), (0, p23_0), (0, p23_1), (0, p23_2)] [] h23_0 Q := by
    intro n
    induction n with
    | zero => intro p23_0 p23_1 p23_2 p23_3 h23_0 gh_23_0 q0_23_0 q1_23_0 q2_23_0 q3_23_0 q4_23_0 q5_23_0 q6_23_0 q7_23_0 c151_48_23_0 n_Mw_23_0 n_Mw3_23_0 n_Rws_23_0 n_Fp_23_0 n_Wys_23_0 wb_23_0 wc_23_0 wy_23_0 e3_23_0 lo_23_0 at_23_0 hm_23_0; exfalso; omega
    | succ n ih_23_0 =>
      intro p23_0 p23_1 p23_2 p23_3 h23_0 gh_23_0 q0_23_0 q1_23_0 q2_23_0 q3_23_0 q4_23_0 q5_23_0 q6_23_0 q7_23_0 c151_48_23_0 n_Mw_23_0 n_Mw3_23_0 n_Rws_23_0 n_Fp_23_0 n_Wys_23_0 wb_23_0 wc_23_0 wy_23_0 e3_23_0 lo_23_0 at_23_0 hm_23_0
      refine w_iload gz_215_23 rfl ?_
      refine w_bipush gz_215_25 (by decide) ?_
      refine w_icge (t := 87) gz_215_27 rfl (fun u1 => ?_) (fun u1 => ?_)
      ·
        refine w_aload_n gz_215_87 rfl ?_
        refine w_getX (v := 163) gz_215_88 is_151 rd_10 rfl (by decide) rfl ?_
        refine w_iload gz_215_91 rfl ?_
        refine w_iload gz_215_93 rfl ?_
        refine w_iast gz_215_95 is_163 rd_62 (by omega) (by omega) (by omega) (by omega) (fun h3 fh3 => ?_)
        have gh3 : my_fr [(10, 27), (10, 32), (10, 33), (10, 37), (10, 48), (62, -1), (73, -1), (74, -1), (75, -1), (76, -1), (77, -1), (78, -1), (79, -1), (80, -1), (81, -1), (82, -1), (83, -1), (84, -1), (85, -1), (86, -1), (89, -1), (90, -1), (91, -1), (92, -1), (93, -1)] h h3 := my_fr.up gh_23_0 is_163 fh3 rfl
        have Mw_h3 : Mw h3 := Mw_ag (my_ag.up fh3 is_163 rfl) n_Mw_23_0
        have Mw3_h3 : Mw3 h3 := Mw3_ag (my_ag.up fh3 is_163 rfl) n_Mw3_23_0
        have Rws_h3 : Rws h3 := Rws_ag (my_ag.up fh3 is_163 rfl) n_Rws_23_0
        have Fp_h3 : Fp h3 x1 := Fp_ag (my_ag.up fh3 is_163 rfl) n_Fp_23_0
        have Wys_h3 : Wys h3 := Wys_ag (my_ag.up fh3 is_163 rfl) n_Wys_23_0
        have ce4 : h3 151 48 = p23_3 := ((my_up_role fh3 is_151 is_163 rfl).trans c151_48_23_0)
        have a190 : ∀ j : Int, h3 190 j = h23_0 190 j := fun j => ((my_up_role fh3 is_190 is_163 rfl).trans (rfl : h23_0 190 j = h23_0 190 j))
        have a191 : ∀ j : Int, h3 191 j = h23_0 191 j := fun j => ((my_up_role fh3 is_191 is_163 rfl).trans (rfl : h23_0 191 j = h23_0 191 j))
        have a192 : ∀ j : Int, h3 192 j = h23_0 192 j := fun j => ((my_up_role fh3 is_192 is_163 rfl).trans (rfl : h23_0 192 j = h23_0 192 j))
        have a193 : ∀ j : Int, h3 193 j = h23_0 193 j := fun j => ((my_up_role fh3 is_193 is_163 rfl).trans (rfl : h23_0 193 j = h23_0 193 j))
        have a194 : ∀ j : Int, h3 194 j = h23_0 194 j := fun j => ((my_up_role fh3 is_194 is_163 rfl).trans (rfl : h23_0 194 j = h23_0 194 j))
        have wyc : WyL h3 = WyL h23_0 := WyL_cg (by omega) a190 a191 a192 a193 a194
        exact w_vret gz_215_96 gm_215 (k0 h3 (gh3) (by first | (have q := wyc.trans wy_23_0; rw [show p23_2.toNat = 20 by omega] at q; exact q) | exact Rs_163 e3_23_0 fh3 at_23_0 (lo_23_0.trans (MS_cell hr4)) | assumption | omega) (by first | (have q := wyc.trans wy_23_0; rw [show p23_2.toNat = 20 by omega] at q; exact q) | exact Rs_163 e3_23_0 fh3 at_23_0 (lo_23_0.trans (MS_cell hr4)) | assumption | omega) (by first | (have q := wyc.trans wy_23_0; rw [show p23_2.toNat = 20 by omega] at q; exact q) | exact Rs_163 e3_23_0 fh3 at_23_0 (lo_23_0.trans (MS_cell hr4)) | assumption | omega) Wys_h3)
      ·
        refine w_aload_n gz_215_30 rfl ?_
        refine w_getX (v := 163) gz_215_31 is_151 rd_10 rfl (by decide) rfl ?_
        refine w_iload gz_215_34 rfl ?_
        refine w_iload gz_215_36 rfl ?_
        refine w_iast gz_215_38 is_163 rd_62 (by omega) (by omega) (by omega) (by omega) (fun h6 fh6 => ?_)
        have gh6 : my_fr [(10, 27), (10, 32), (10, 33), (10, 37), (10, 48), (62, -1), (73, -1), (74, -1), (75, -1), (76, -1), (77, -1), (78, -1), (79, -1), (80, -1), (81, -1), (82, -1), (83, -1), (84, -1), (85, -1), (86, -1), (89, -1), (90, -1), (91, -1), (92, -1), (93, -1)] h h6 := my_fr.up gh_23_0 is_163 fh6 rfl
        have Mw_h6 : Mw h6 := Mw_ag (my_ag.up fh6 is_163 rfl) n_Mw_23_0
        have Mw3_h6 : Mw3 h6 := Mw3_ag (my_ag.up fh6 is_163 rfl) n_Mw3_23_0
        have Rws_h6 : Rws h6 := Rws_ag (my_ag.up fh6 is_163 rfl) n_Rws_23_0
        have Fp_h6 : Fp h6 x1 := Fp_ag (my_ag.up fh6 is_163 rfl) n_Fp_23_0
        have Wys_h6 : Wys h6 := Wys_ag (my_ag.up fh6 is_163 rfl) n_Wys_23_0
        have e3b : ∀ j : Int, j ≠ 240 * 8 + (4 * x2 + x3) → h6 163 j = h 163 j := fun j hj => (my_up_ne fh6 (by omega)).trans (e3_23_0 j hj)
        refine w_iload gz_215_39 rfl ?_
        refine w_iload gz_215_41 rfl ?_
        refine w_iceq (t := 81) gz_215_43 rfl (fun u7 => ?_) (fun u7 => ?_)
        ·
          refine w_iinc (ls' := [(2, 151), (0, x1), (0, x2), (0, x3), (0, p23_0), (0, p23_1), (0, (p23_2 + 1))]) gz_215_81 rfl gm_215 rfl rfl rfl ⟨by omega, by omega⟩ ?_
          refine w_goto (t := 23) gz_215_84 rfl ?_
          have ce8 : h6 151 48 = p23_3 := ((my_up_role fh6 is_151 is_163 rfl).trans c151_48_23_0)
          have ce9 : h6 151 48 = p23_3 := ((my_up_role fh6 is_151 is_163 rfl).trans c151_48_23_0)
          have a190 : ∀ j : Int, h6 190 j = h23_0 190 j := fun j => ((my_up_role fh6 is_190 is_163 rfl).trans (rfl : h23_0 190 j = h23_0 190 j))
          have a191 : ∀ j : Int, h6 191 j = h23_0 191 j := fun j => ((my_up_role fh6 is_191 is_163 rfl).trans (rfl : h23_0 191 j = h23_0 191 j))
          have a192 : ∀ j : Int, h6 192 j = h23_0 192 j := fun j => ((my_up_role fh6 is_192 is_163 rfl).trans (rfl : h23_0 192 j = h23_0 192 j))
          have a193 : ∀ j : Int, h6 193 j = h23_0 193 j := fun j => ((my_up_role fh6 is_193 is_163 rfl).trans (rfl : h23_0 193 j = h23_0 193 j))
          have a194 : ∀ j : Int, h6 194 j = h23_0 194 j := fun j => ((my_up_role fh6 is_194 is_163 rfl).trans (rfl : h23_0 194 j = h23_0 194 j))
          have wyc : WyL h6 = WyL h23_0 := WyL_cg (by omega) a190 a191 a192 a193 a194
          have a163 : ∀ j : Int, h6 163 j = h6 163 j := fun j => rfl
          have e3f : ∀ j : Int, j ≠ 240 * 8 + (4 * x2 + x3) → h6 163 j = h 163 j := fun j hj => (a163 j).trans (e3b j hj)
          exact ih_23_0 (p23_0) (p23_1) ((p23_2 + 1)) (p23_3) h6 (gh6) (by omega) (by omega) (by omega) (by omega) (by omega) (by omega) (by omega) (by omega) (((my_up_role fh6 is_151 is_163 rfl).trans c151_48_23_0).trans (by omega)) Mw_h6 Mw3_h6 Rws_h6 Fp_h6 Wys_h6 (by first | assumption | omega | (subst_vars; omega) | omega) (by first | assumption | omega | (subst_vars; omega) | omega) (by first | rfl | exact FvI_s (by omega) (wyc.trans wy_23_0) (fun z => z.1 (by omega)) | exact FvI_s (by omega) (wyc.trans wy_23_0) (fun z => ml (mlI.mpr z.2.1)) | exact FvI_s (by omega) (wyc.trans wy_23_0) (fun z => by have q := iw.mpr (iq.mpr z.2.2); omega) | exact (by rw [fw]; exact FvI_y (by omega) (wyc.trans wy_23_0) ⟨by omega, mlI.mp ml, iq.mp (iw.mp (by omega))⟩ (by omega) (by omega) (by omega)) | assumption | omega) (by first | exact (fun _ _ => rfl) | exact e3f | assumption | omega) (by first | exact lo8 | exact lo_23_0 | assumption | omega) (by first | omega | exact at_23_0 | assumption | omega) (by omega)
        ·
          refine w_aload_n gz_215_46 rfl ?_
          refine w_bipush gz_215_47 (by decide) ?_
          have ms8 : zqMS h6 8 = zqSet (zqMS h 8) (4 * x2 + x3) p23_2 := MS_set hr4 (fun j => my_fr.at gh6 pis_162 rfl) e3b (by rw [← at_23_0]; exact my_up_self fh6)
          refine v_knowA (x := 162) pis_162 rd_61 (fun kT => ?_)
          refine v_knowA (x := 163) pis_163 rd_62 (fun kV => ?_)
          refine v_knowA (x := 160) pis_160 rd_59 (fun kN => ?_)
          refine v_knowA (x := 157) pis_157 rd_56 (fun kC => ?_)
          have T8 : MTy h6 := ⟨kV, kT, kN, kC⟩
          have ma8 : zqMA h6 = zqMA h := zqMA_e (fun j => my_fr.at gh6 pis_157 rfl) (fun j => my_fr.at gh6 pis_158 rfl) (fun j => my_fr.at gh6 pis_159 rfl) (fun j => my_fr.at gh6 pis_160 rfl) (fun j => my_fr.at gh6 pis_161 rfl)
          have mlI := MLs_lf T8 (s := 8) (by omega) (by omega)
          rw [ma8, ms8] at mlI
          refine w_inv (k := 2) (as := [(0, 8)]) (r := []) (x := 151) (ls0 := [(2, 151), (0, 8), (9, 0), (9, 0)]) gz_215_49 gm_155 rfl is_151 rd_10 rfl rfl rfl rfl rfl (c_Model_isLawful5 (d := (d + 1)) (x1 := 8) (by omega) (by omega) (fun xp10 => ?_) (fun xp11 => ?_))
          ·
            show wp l rho (d + 5) 215 52 [(2, 151), (0, x1), (0, x2), (0, x3), (0, p23_0), (0, p23_1), (0, p23_2)] [(0, 0)] h6 Q
            have ml := xp10
            refine w_ifeq (t := 81) gz_215_52 rfl (fun u12 => ?_) (fun u12 => by exfalso; omega)
            refine w_iinc (ls' := [(2, 151), (0, x1), (0, x2), (0, x3), (0, p23_0), (0, p23_1), (0, (p23_2 + 1))]) gz_215_81 rfl gm_215 rfl rfl rfl ⟨by omega, by omega⟩ ?_
            refine w_goto (t := 23) gz_215_84 rfl ?_
            have ce13 : h6 151 48 = p23_3 := ((my_up_role fh6 is_151 is_163 rfl).trans c151_48_23_0)
            have ce14 : h6 151 48 = p23_3 := ((my_up_role fh6 is_151 is_163 rfl).trans c151_48_23_0)
            have a190 : ∀ j : Int, h6 190 j = h23_0 190 j := fun j => ((my_up_role fh6 is_190 is_163 rfl).trans (rfl : h23_0 190 j = h23_0 190 j))
            have a191 : ∀ j : Int, h6 191 j = h23_0 191 j := fun j => ((my_up_role fh6 is_191 is_163 rfl).trans (rfl : h23_0 191 j = h23_0 191 j))
            have a192 : ∀ j : Int, h6 192 j = h23_0 192 j := fun j => ((my_up_role fh6 is_192 is_163 rfl).trans (rfl : h23_0 192 j = h23_0 192 j))
            have a193 : ∀ j : Int, h6 193 j = h23_0 193 j := fun j => ((my_up_role fh6 is_193 is_163 rfl).trans (rfl : h23_0 193 j = h23_0 193 j))
            have a194 : ∀ j : Int, h6 194 j = h23_0 194 j := fun j => ((my_up_role fh6 is_194 is_163 rfl).trans (rfl : h23_0 194 j = h23_0 194 j))
            have wyc : WyL h6 = WyL h23_0 := WyL_cg (by omega) a190 a191 a192 a193 a194
            have a163 : ∀ j : Int, h6 163 j = h6 163 j := fun j => rfl
            have e3f : ∀ j : Int, j ≠ 240 * 8 + (4 * x2 + x3) → h6 163 j = h 163 j := fun j hj => (a163 j).trans (e3b j hj)
            exact ih_23_0 (p23_0) (p23_1) ((p23_2 + 1)) (p23_3) h6 (gh6) (by omega) (by omega) (by omega) (by omega) (by omega) (by omega) (by omega) (by omega) (((my_up_role fh6 is_151 is_163 rfl).trans c151_48_23_0).trans (by omega)) Mw_h6 Mw3_h6 Rws_h6 Fp_h6 Wys_h6 (by first | assumption | omega | (subst_vars; omega) | omega) (by first | assumption | omega | (subst_vars; omega) | omega) (by first | rfl | exact FvI_s (by omega) (wyc.trans wy_23_0) (fun z => z.1 (by omega)) | exact FvI_s (by omega) (wyc.trans wy_23_0) (fun z => ml (mlI.mpr z.2.1)) | exact FvI_s (by omega) (wyc.trans wy_23_0) (fun z => by have q := iw.mpr (iq.mpr z.2.2); omega) | exact (by rw [fw]; exact FvI_y (by omega) (wyc.trans wy_23_0) ⟨by omega, mlI.mp ml, iq.mp (iw.mp (by omega))⟩ (by omega) (by omega) (by omega)) | assumption | omega) (by first | exact (fun _ _ => rfl) | exact e3f | assumption | omega) (by first | exact lo8 | exact lo_23_0 | assumption | omega) (by first | omega | exact at_23_0 | assumption | omega) (by omega)
          ·
            show wp l rho (d + 5) 215 52 [(2, 151), (0, x1), (0, x2), (0, x3), (0, p23_0), (0, p23_1), (0, p23_2)] [(0, 1)] h6 Q
            have ml := xp11
            refine w_ifeq (t := 81) gz_215_52 rfl (fun u15 => by exfalso; omega) (fun u15 => ?_)
            refine w_aload_n gz_215_55 rfl ?_
            refine w_bipush gz_215_56 (by decide) ?_
            refine w_iload_n gz_215_58 rfl ?_
            have iq := IsP_m (w := x1) (my_ag.fr (F := LmF) gh6 rfl) ms8 (my_fr.at gh6 pis_151 rfl) (fun j => my_fr.at gh6 pis_189 rfl)
            refine w_inv (k := 3) (as := [(0, x1), (0, 8)]) (r := []) (x := 151) (ls0 := [(2, 151), (0, 8), (0, x1), (9, 0), (9, 0), (9, 0)]) gz_215_59 gm_213 rfl is_151 rd_10 rfl rfl rfl rfl rfl (c_Model_isWanted5 (d := d) (x1 := 8) (x2 := x1) (by omega) (by omega) (by omega) (by omega) Mw_h6 Mw3_h6 Rws_h6 Fp_h6 (LmW_ag (my_ag.fr (F := LmF) gh6 rfl) hlm) (WSm_m (my_ag.fr (F := LmF) gh6 rfl) (my_fr.at gh6 pis_151 rfl) (fun j => my_fr.at gh6 pis_189 rfl) hws) (fun h16 v17 frh16 w18 w19 xp20 => ?_))
            have gh16 : my_fr [(10, 27), (10, 32), (10, 33), (10, 37), (10, 48), (62, -1), (73, -1), (74, -1), (75, -1), (76, -1), (77, -1), (78, -1), (79, -1), (80, -1), (81, -1), (82, -1), (83, -1), (84, -1), (85, -1), (86, -1), (89, -1), (90, -1), (91, -1), (92, -1), (93, -1)] h h16 := my_fr.tr gh6 (frh16.mo rfl)
            have Mw_h16 : Mw h16 := Mw_ag (my_ag.fr frh16 rfl) Mw_h6
            have Mw3_h16 : Mw3 h16 := Mw3_ag (my_ag.fr frh16 rfl) Mw3_h6
            have Rws_h16 : Rws h16 := Rws_ag (my_ag.fr frh16 rfl) Rws_h6
            have Fp_h16 : Fp h16 x1 := Fp_ag (my_ag.fr frh16 rfl) Fp_h6
            have Wys_h16 : Wys h16 := Wys_ag (my_ag.fr frh16 rfl) Wys_h6
            show wp l rho (d + 5) 215 62 [(2, 151), (0, x1), (0, x2), (0, x3), (0, p23_0), (0, p23_1), (0, p23_2)] [(0, v17)] h16 Q
            have iw := xp20
            refine w_ifeq (t := 81) gz_215_62 rfl (fun u21 => ?_) (fun u21 => ?_)
            ·
              refine w_iinc (ls' := [(2, 151), (0, x1), (0, x2), (0, x3), (0, p23_0), (0, p23_1), (0, (p23_2 + 1))]) gz_215_81 rfl gm_215 rfl rfl rfl ⟨by omega, by omega⟩ ?_
              refine w_goto (t := 23) gz_215_84 rfl ?_
              have ce22 : h16 151 48 = p23_3 := ((my_fr.at frh16 is_151 rfl).trans ((my_up_role fh6 is_151 is_163 rfl).trans c151_48_23_0))
              have ce23 : h16 151 48 = p23_3 := ((my_fr.at frh16 is_151 rfl).trans ((my_up_role fh6 is_151 is_163 rfl).trans c151_48_23_0))
              have a190 : ∀ j : Int, h16 190 j = h23_0 190 j := fun j => ((my_fr.at frh16 is_190 rfl).trans ((my_up_role fh6 is_190 is_163 rfl).trans (rfl : h23_0 190 j = h23_0 190 j)))
              have a191 : ∀ j : Int, h16 191 j = h23_0 191 j := fun j => ((my_fr.at frh16 is_191 rfl).trans ((my_up_role fh6 is_191 is_163 rfl).trans (rfl : h23_0 191 j = h23_0 191 j)))
              have a192 : ∀ j : Int, h16 192 j = h23_0 192 j := fun j => ((my_fr.at frh16 is_192 rfl).trans ((my_up_role fh6 is_192 is_163 rfl).trans (rfl : h23_0 192 j = h23_0 192 j)))
              have a193 : ∀ j : Int, h16 193 j = h23_0 193 j := fun j => ((my_fr.at frh16 is_193 rfl).trans ((my_up_role fh6 is_193 is_163 rfl).trans (rfl : h23_0 193 j = h23_0 193 j)))
              have a194 : ∀ j : Int, h16 194 j = h23_0 194 j := fun j => ((my_fr.at frh16 is_194 rfl).trans ((my_up_role fh6 is_194 is_163 rfl).trans (rfl : h23_0 194 j = h23_0 194 j)))
              have wyc : WyL h16 = WyL h23_0 := WyL_cg (by omega) a190 a191 a192 a193 a194
              have a163 : ∀ j : Int, h16 163 j = h6 163 j := fun j => ((my_fr.at frh16 is_163 rfl).trans (rfl : h6 163 j = h6 163 j))
              have e3f : ∀ j : Int, j ≠ 240 * 8 + (4 * x2 + x3) → h16 163 j = h 163 j := fun j hj => (a163 j).trans (e3b j hj)
              exact ih_23_0 (p23_0) (p23_1) ((p23_2 + 1)) (p23_3) h16 (gh16) (by omega) (by omega) (by omega) (by omega) (by omega) (by omega) (by omega) (by omega) (((my_fr.at frh16 is_151 rfl).trans ((my_up_role fh6 is_151 is_163 rfl).trans c151_48_23_0)).trans (by omega)) Mw_h16 Mw3_h16 Rws_h16 Fp_h16 Wys_h16 (by first | assumption | omega | (subst_vars; omega) | omega) (by first | assumption | omega | (subst_vars; omega) | omega) (by first | rfl | exact FvI_s (by omega) (wyc.trans wy_23_0) (fun z => z.1 (by omega)) | exact FvI_s (by omega) (wyc.trans wy_23_0) (fun z => ml (mlI.mpr z.2.1)) | exact FvI_s (by omega) (wyc.trans wy_23_0) (fun z => by have q := iw.mpr (iq.mpr z.2.2); omega) | exact (by rw [fw]; exact FvI_y (by omega) (wyc.trans wy_23_0) ⟨by omega, mlI.mp ml, iq.mp (iw.mp (by omega))⟩ (by omega) (by omega) (by omega)) | assumption | omega) (by first | exact (fun _ _ => rfl) | exact e3f | assumption | omega) (by first | exact lo8 | exact lo_23_0 | assumption | omega) (by first | omega | exact at_23_0 | assumption | omega) (by omega)
            ·
              refine w_aload_n gz_215_65 rfl ?_
              refine w_iconst gz_215_66 (by decide) ?_
              refine w_iload_n gz_215_67 rfl ?_
              refine w_bipush gz_215_68 (by decide) ?_
              refine w_idiv gz_215_70 (by omega) (by decide) ?_
              refine w_iload_n gz_215_71 rfl ?_
              refine w_bipush gz_215_72 (by decide) ?_
              refine w_irem gz_215_74 (by omega) (by decide) ?_
              refine w_iload_n gz_215_75 rfl ?_
              refine w_iload gz_215_76 rfl ?_
              have ce24 : h16 151 48 = p23_3 := ((my_fr.at frh16 is_151 rfl).trans ((my_up_role fh6 is_151 is_163 rfl).trans c151_48_23_0))
              have ce25 : h16 151 48 = p23_3 := ((my_fr.at frh16 is_151 rfl).trans ((my_up_role fh6 is_151 is_163 rfl).trans c151_48_23_0))
              have a190 : ∀ j : Int, h16 190 j = h23_0 190 j := fun j => ((my_fr.at frh16 is_190 rfl).trans ((my_up_role fh6 is_190 is_163 rfl).trans (rfl : h23_0 190 j = h23_0 190 j)))
              have a191 : ∀ j : Int, h16 191 j = h23_0 191 j := fun j => ((my_fr.at frh16 is_191 rfl).trans ((my_up_role fh6 is_191 is_163 rfl).trans (rfl : h23_0 191 j = h23_0 191 j)))
              have a192 : ∀ j : Int, h16 192 j = h23_0 192 j := fun j => ((my_fr.at frh16 is_192 rfl).trans ((my_up_role fh6 is_192 is_163 rfl).trans (rfl : h23_0 192 j = h23_0 192 j)))
              have a193 : ∀ j : Int, h16 193 j = h23_0 193 j := fun j => ((my_fr.at frh16 is_193 rfl).trans ((my_up_role fh6 is_193 is_163 rfl).trans (rfl : h23_0 193 j = h23_0 193 j)))
              have a194 : ∀ j : Int, h16 194 j = h23_0 194 j := fun j => ((my_fr.at frh16 is_194 rfl).trans ((my_up_role fh6 is_194 is_163 rfl).trans (rfl : h23_0 194 j = h23_0 194 j)))
              have wyc : WyL h16 = WyL h23_0 := WyL_cg (by omega) a190 a191 a192 a193 a194
              have cn8 : h16 151 48 ≤ 1800 := by omega
              refine w_inv (k := 0) (as := [(0, p23_2), (0, x3), (0, (x2 % 20)), (0, (x2 / 20)), (0, 1)]) (r := []) (x := 151) (ls0 := [(2, 151), (0, 1), (0, (x2 / 20)), (0, (x2 % 20)), (0, x3), (0, p23_2)]) gz_215_78 gm_214 rfl is_151 rd_10 rfl rfl rfl rfl rfl (c_Model_finds5 (d := (d + 4)) (x1 := 1) (x2 := (x2 / 20)) (x3 := (x2 % 20)) (x4 := x3) (x5 := p23_2) (by omega) (by omega) (by omega) (by omega) (by omega) (by omega) (by omega) (by omega) (by omega) (by omega) Wys_h16 (by first | assumption | exact Fp_h16 | exact Fp_told (by omega) (by omega) | omega | (subst_vars; omega) | omega) (by first | assumption | exact Fp_h16 | exact Fp_told (by omega) (by omega) | omega | (subst_vars; omega) | omega) (by first | assumption | exact Fp_h16 | exact Fp_told (by omega) (by omega) | omega | (subst_vars; omega) | omega) (fun h26 frh26 w27 w28 xp29 xp30 Wys_h26t31 => ?_))
              have gh26 : my_fr [(10, 27), (10, 32), (10, 33), (10, 37), (10, 48), (62, -1), (73, -1), (74, -1), (75, -1), (76, -1), (77, -1), (78, -1), (79, -1), (80, -1), (81, -1), (82, -1), (83, -1), (84, -1), (85, -1), (86, -1), (89, -1), (90, -1), (91, -1), (92, -1), (93, -1)] h h26 := my_fr.tr gh16 (frh26.mo rfl)
              have Mw_h26 : Mw h26 := Mw_ag (my_ag.fr frh26 rfl) Mw_h16
              have Mw3_h26 : Mw3 h26 := Mw3_ag (my_ag.fr frh26 rfl) Mw3_h16
              have Rws_h26 : Rws h26 := Rws_ag (my_ag.fr frh26 rfl) Rws_h16
              have Fp_h26 : Fp h26 x1 := Fp_ag (my_ag.fr frh26 rfl) Fp_h16
              show wp l rho (d + 5) 215 81 [(2, 151), (0, x1), (0, x2), (0, x3), (0, p23_0), (0, p23_1), (0, p23_2)] [] h26 Q
              have fw := xp30
              refine w_iinc (ls' := [(2, 151), (0, x1), (0, x2), (0, x3), (0, p23_0), (0, p23_1), (0, (p23_2 + 1))]) gz_215_81 rfl gm_215 rfl rfl rfl ⟨by omega, by omega⟩ ?_
              refine w_goto (t := 23) gz_215_84 rfl ?_
              have ce32 : h26 151 48 = (h26 151 48) := (rfl : h26 151 48 = h26 151 48)
              have ce33 : h26 151 48 = (h26 151 48) := (rfl : h26 151 48 = h26 151 48)
              have a190 : ∀ j : Int, h26 190 j = h26 190 j := fun j => rfl
              have a191 : ∀ j : Int, h26 191 j = h26 191 j := fun j => rfl
              have a192 : ∀ j : Int, h26 192 j = h26 192 j := fun j => rfl
              have a193 : ∀ j : Int, h26 193 j = h26 193 j := fun j => rfl
              have a194 : ∀ j : Int, h26 194 j = h26 194 j := fun j => rfl
              have a163 : ∀ j : Int, h26 163 j = h6 163 j := fun j => ((my_fr.at frh26 is_163 rfl).trans ((my_fr.at frh16 is_163 rfl).trans (rfl : h6 163 j = h6 163 j)))
              have e3f : ∀ j : Int, j ≠ 240 * 8 + (4 * x2 + x3) → h26 163 j = h 163 j := fun j hj => (a163 j).trans (e3b j hj)
              exact ih_23_0 (p23_0) (p23_1) ((p23_2 + 1)) ((h26 151 48)) h26 (gh26) (by omega) (by omega) (by omega) (by omega) (by omega) (by omega) (by omega) (by omega) ((rfl : h26 151 48 = h26 151 48).trans (by omega)) Mw_h26 Mw3_h26 Rws_h26 Fp_h26 Wys_h26t31 (by first | assumption | omega | (subst_vars; omega) | omega) (by first | assumption | omega | (subst_vars; omega) | omega) (by first | rfl | exact FvI_s (by omega) (wyc.trans wy_23_0) (fun z => z.1 (by omega)) | exact FvI_s (by omega) (wyc.trans wy_23_0) (fun z => ml (mlI.mpr z.2.1)) | exact FvI_s (by omega) (wyc.trans wy_23_0) (fun z => by have q := iw.mpr (iq.mpr z.2.2); omega) | exact (by rw [fw]; exact FvI_y (by omega) (wyc.trans wy_23_0) ⟨by omega, mlI.mp ml, iq.mp (iw.mp (by omega))⟩ (by omega) (by omega) (by omega)) | assumption | omega) (by first | exact (fun _ _ => rfl) | exact e3f | assumption | omega) (by first | exact lo8 | exact lo_23_0 | assumption | omega) (by first | omega | exact at_23_0 | assumption | omega) (by omega)
  refine w_iconst gz_215_0 (by decide) ?_
  refine w_sipush gz_215_1 (by decide) ?_
  refine w_iload_n gz_215_4 rfl ?_
  refine w_iadd gz_215_5 ⟨by omega, by omega⟩ ?_
  refine w_imul gz_215_6 ⟨by omega, by omega⟩ ?_
  refine w_iload_n gz_215_7 rfl ?_
  refine w_iadd gz_215_8 ⟨by omega, by omega⟩ ?_
  refine w_istore (ls' := [(2, 151), (0, x1), (0, x2), (0, x3), (0, ((4 * (480 + x2)) + x3)), (9, 0), (9, 0)]) gz_215_9 gm_215 rfl rfl rfl ?_
  refine w_aload_n gz_215_11 rfl ?_
  refine w_getX (v := 163) gz_215_12 is_151 rd_10 rfl (by decide) rfl ?_
  refine w_iload gz_215_15 rfl ?_
  refine w_iald gz_215_17 is_163 rd_62 (by omega) (by omega) (fun v35 ev35 pv35 qv35 => ?_)
  have lo8 : v35 = zqMS h 8 (4 * x2 + x3) := by
    rw [MS_cell hr4, show 240 * 8 + (4 * x2 + x3) = ((4 * (480 + x2)) + x3) by omega]
    omega
  refine w_istore (ls' := [(2, 151), (0, x1), (0, x2), (0, x3), (0, ((4 * (480 + x2)) + x3)), (0, v35), (9, 0)]) gz_215_18 gm_215 rfl rfl rfl ?_
  refine w_iconst gz_215_20 (by decide) ?_
  refine w_istore (ls' := [(2, 151), (0, x1), (0, x2), (0, x3), (0, ((4 * (480 + x2)) + x3)), (0, v35), (0, 0)]) gz_215_21 gm_215 rfl rfl rfl ?_
  have ce36 : h 151 48 = k151_48 := ek151_48.symm
  have ce37 : h 151 48 = k151_48 := ek151_48.symm
  have a190 : ∀ j : Int, h 190 j = h 190 j := fun _ => rfl
  have a191 : ∀ j : Int, h 191 j = h 191 j := fun _ => rfl
  have a192 : ∀ j : Int, h 192 j = h 192 j := fun _ => rfl
  have a193 : ∀ j : Int, h 193 j = h 193 j := fun _ => rfl
  have a194 : ∀ j : Int, h 194 j = h 194 j := fun _ => rfl
  have wyc : WyL h = WyL h := rfl
  have a163 : ∀ j : Int, h 163 j = h 163 j := fun _ => rfl
  have e3f : ∀ j : Int, j ≠ 240 * 8 + (4 * x2 + x3) → h 163 j = h 163 j := fun _ _ => rfl
  exact J23_0 21 (((4 * (480 + x2)) + x3)) (v35) (0) (k151_48) h (my_fr.rf) (by omega) (by omega) (by omega) (by omega) (by omega) (by omega) (by omega) (by omega) (ek151_48.symm.trans (by omega)) n_Mw n_Mw3 n_Rws n_Fp n_Wys (by first | assumption | omega | (subst_vars; omega) | omega) (by first | assumption | omega | (subst_vars; omega) | omega) (by first | rfl | exact FvI_s (by omega) (wyc.trans wy_23_0) (fun z => z.1 (by omega)) | exact FvI_s (by omega) (wyc.trans wy_23_0) (fun z => ml (mlI.mpr z.2.1)) | exact FvI_s (by omega) (wyc.trans wy_23_0) (fun z => by have q := iw.mpr (iq.mpr z.2.2); omega) | exact (by rw [fw]; exact FvI_y (by omega) (wyc.trans wy_23_0) ⟨by omega, mlI.mp ml, iq.mp (iw.mp (by omega))⟩ (by omega) (by omega) (by omega)) | assumption | omega) (by first | exact (fun _ _ => rfl) | exact e3f | assumption | omega) (by first | exact lo8 | exact lo_23_0 | assumption | omega) (by first | omega | exact at_23_0 | assumption | omega) (by omega)
end MYNModel_wallsUnder5
